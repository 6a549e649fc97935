section
-- ===== PART A: goes FIRST, ahead of the names: the tables' words, and 'selects' of the private methods out of them =====
/-- a private method of a class that the tables say can be made, by its rows of tables_1 -/
def lw_okq (q : MethodName × Nat) : Prop := (q.1.cls ≠ "java/lang/invoke/MethodHandle" ∧ q.1.cls ≠ "java/lang/invoke/VarHandle") ∧ Cond.instantiable q.1.cls q.2 ∈ tables_1 ∧ Cond.privateMethod q.1 ∈ tables_1 ∧ Cond.instanceMethod q.1 ∈ tables_1
theorem lw_p0 : lw_okq (⟨"java/lang/Throwable", "fillInStackTrace", "(I)Ljava/lang/Throwable;"⟩, 6) := ⟨⟨by decide +kernel, by decide +kernel⟩, List.mem_of_getElem? (i := 102) (by decide +kernel), List.mem_of_getElem? (i := 100) (by decide +kernel), List.mem_of_getElem? (i := 101) (by decide +kernel)⟩
theorem lw_p1 : lw_okq (⟨"SemiringDesk", "requirePlace", "(III)V"⟩, 2) := ⟨⟨by decide +kernel, by decide +kernel⟩, List.mem_of_getElem? (i := 13) (by decide +kernel), List.mem_of_getElem? (i := 147) (by decide +kernel), List.mem_of_getElem? (i := 148) (by decide +kernel)⟩
theorem lw_p2 : lw_okq (⟨"SemiringDesk", "blank", "(II)LSemiringDesk$Matrix;"⟩, 2) := ⟨⟨by decide +kernel, by decide +kernel⟩, List.mem_of_getElem? (i := 13) (by decide +kernel), List.mem_of_getElem? (i := 268) (by decide +kernel), List.mem_of_getElem? (i := 269) (by decide +kernel)⟩
theorem lw_p3 : lw_okq (⟨"SemiringDesk", "keep", "(I)I"⟩, 2) := ⟨⟨by decide +kernel, by decide +kernel⟩, List.mem_of_getElem? (i := 13) (by decide +kernel), List.mem_of_getElem? (i := 322) (by decide +kernel), List.mem_of_getElem? (i := 323) (by decide +kernel)⟩
theorem lw_p4 : lw_okq (⟨"SemiringDesk", "requireSameShape", "(II)V"⟩, 2) := ⟨⟨by decide +kernel, by decide +kernel⟩, List.mem_of_getElem? (i := 13) (by decide +kernel), List.mem_of_getElem? (i := 333) (by decide +kernel), List.mem_of_getElem? (i := 334) (by decide +kernel)⟩
theorem lw_p5 : lw_okq (⟨"SemiringDesk", "requireGraph", "(I)V"⟩, 2) := ⟨⟨by decide +kernel, by decide +kernel⟩, List.mem_of_getElem? (i := 13) (by decide +kernel), List.mem_of_getElem? (i := 375) (by decide +kernel), List.mem_of_getElem? (i := 376) (by decide +kernel)⟩
theorem lw_p6 : lw_okq (⟨"SemiringDeskModel", "isPlace", "(III)Z"⟩, 10) := ⟨⟨by decide +kernel, by decide +kernel⟩, List.mem_of_getElem? (i := 425) (by decide +kernel), List.mem_of_getElem? (i := 478) (by decide +kernel), List.mem_of_getElem? (i := 479) (by decide +kernel)⟩
theorem lw_p7 : lw_okq (⟨"SemiringDeskModel", "entries", "(I)I"⟩, 10) := ⟨⟨by decide +kernel, by decide +kernel⟩, List.mem_of_getElem? (i := 425) (by decide +kernel), List.mem_of_getElem? (i := 499) (by decide +kernel), List.mem_of_getElem? (i := 500) (by decide +kernel)⟩
theorem lw_p8 : lw_okq (⟨"SemiringDeskModel", "begin", "(II)V"⟩, 10) := ⟨⟨by decide +kernel, by decide +kernel⟩, List.mem_of_getElem? (i := 425) (by decide +kernel), List.mem_of_getElem? (i := 510) (by decide +kernel), List.mem_of_getElem? (i := 511) (by decide +kernel)⟩
theorem lw_p9 : lw_okq (⟨"SemiringDeskModel", "cross", "(IIIII)V"⟩, 10) := ⟨⟨by decide +kernel, by decide +kernel⟩, List.mem_of_getElem? (i := 425) (by decide +kernel), List.mem_of_getElem? (i := 514) (by decide +kernel), List.mem_of_getElem? (i := 515) (by decide +kernel)⟩
theorem lw_p10 : lw_okq (⟨"SemiringDeskModel", "product", "(IJJ)J"⟩, 10) := ⟨⟨by decide +kernel, by decide +kernel⟩, List.mem_of_getElem? (i := 425) (by decide +kernel), List.mem_of_getElem? (i := 518) (by decide +kernel), List.mem_of_getElem? (i := 519) (by decide +kernel)⟩
theorem lw_p11 : lw_okq (⟨"SemiringDeskModel", "sum", "(IJJ)J"⟩, 10) := ⟨⟨by decide +kernel, by decide +kernel⟩, List.mem_of_getElem? (i := 425) (by decide +kernel), List.mem_of_getElem? (i := 525) (by decide +kernel), List.mem_of_getElem? (i := 526) (by decide +kernel)⟩
theorem lw_p12 : lw_okq (⟨"SemiringDeskModel", "make", "(IIJ)V"⟩, 10) := ⟨⟨by decide +kernel, by decide +kernel⟩, List.mem_of_getElem? (i := 425) (by decide +kernel), List.mem_of_getElem? (i := 529) (by decide +kernel), List.mem_of_getElem? (i := 530) (by decide +kernel)⟩
theorem lw_p13 : lw_okq (⟨"SemiringDeskModel", "join", "(II)V"⟩, 10) := ⟨⟨by decide +kernel, by decide +kernel⟩, List.mem_of_getElem? (i := 425) (by decide +kernel), List.mem_of_getElem? (i := 533) (by decide +kernel), List.mem_of_getElem? (i := 534) (by decide +kernel)⟩
theorem lw_p14 : lw_okq (⟨"SemiringDeskModel", "finish", "(II)I"⟩, 10) := ⟨⟨by decide +kernel, by decide +kernel⟩, List.mem_of_getElem? (i := 425) (by decide +kernel), List.mem_of_getElem? (i := 537) (by decide +kernel), List.mem_of_getElem? (i := 538) (by decide +kernel)⟩
theorem lw_p15 : lw_okq (⟨"SemiringDeskModel", "pair", "(IIII)I"⟩, 10) := ⟨⟨by decide +kernel, by decide +kernel⟩, List.mem_of_getElem? (i := 425) (by decide +kernel), List.mem_of_getElem? (i := 545) (by decide +kernel), List.mem_of_getElem? (i := 546) (by decide +kernel)⟩
def lw_privs_1 : List (MethodName × Nat) := [(⟨"java/lang/Throwable", "fillInStackTrace", "(I)Ljava/lang/Throwable;"⟩, 6), (⟨"SemiringDesk", "requirePlace", "(III)V"⟩, 2), (⟨"SemiringDesk", "blank", "(II)LSemiringDesk$Matrix;"⟩, 2), (⟨"SemiringDesk", "keep", "(I)I"⟩, 2), (⟨"SemiringDesk", "requireSameShape", "(II)V"⟩, 2), (⟨"SemiringDesk", "requireGraph", "(I)V"⟩, 2), (⟨"SemiringDeskModel", "isPlace", "(III)Z"⟩, 10), (⟨"SemiringDeskModel", "entries", "(I)I"⟩, 10), (⟨"SemiringDeskModel", "begin", "(II)V"⟩, 10), (⟨"SemiringDeskModel", "cross", "(IIIII)V"⟩, 10), (⟨"SemiringDeskModel", "product", "(IJJ)J"⟩, 10), (⟨"SemiringDeskModel", "sum", "(IJJ)J"⟩, 10), (⟨"SemiringDeskModel", "make", "(IIJ)V"⟩, 10), (⟨"SemiringDeskModel", "join", "(II)V"⟩, 10), (⟨"SemiringDeskModel", "finish", "(II)I"⟩, 10), (⟨"SemiringDeskModel", "pair", "(IIII)I"⟩, 10)]
theorem lw_r1 : ∀ q ∈ lw_privs_1, lw_okq q := List.forall_mem_cons.mpr ⟨lw_p0, List.forall_mem_cons.mpr ⟨lw_p1, List.forall_mem_cons.mpr ⟨lw_p2, List.forall_mem_cons.mpr ⟨lw_p3, List.forall_mem_cons.mpr ⟨lw_p4, List.forall_mem_cons.mpr ⟨lw_p5, List.forall_mem_cons.mpr ⟨lw_p6, List.forall_mem_cons.mpr ⟨lw_p7, List.forall_mem_cons.mpr ⟨lw_p8, List.forall_mem_cons.mpr ⟨lw_p9, List.forall_mem_cons.mpr ⟨lw_p10, List.forall_mem_cons.mpr ⟨lw_p11, List.forall_mem_cons.mpr ⟨lw_p12, List.forall_mem_cons.mpr ⟨lw_p13, List.forall_mem_cons.mpr ⟨lw_p14, List.forall_mem_cons.mpr ⟨lw_p15, fun _ h => absurd h List.not_mem_nil⟩⟩⟩⟩⟩⟩⟩⟩⟩⟩⟩⟩⟩⟩⟩⟩
theorem lw_p16 : lw_okq (⟨"SemiringDeskModel", "isSquare", "(I)Z"⟩, 10) := ⟨⟨by decide +kernel, by decide +kernel⟩, List.mem_of_getElem? (i := 425) (by decide +kernel), List.mem_of_getElem? (i := 572) (by decide +kernel), List.mem_of_getElem? (i := 573) (by decide +kernel)⟩
theorem lw_p17 : lw_okq (⟨"SemiringDeskModel", "relax", "()V"⟩, 10) := ⟨⟨by decide +kernel, by decide +kernel⟩, List.mem_of_getElem? (i := 425) (by decide +kernel), List.mem_of_getElem? (i := 582) (by decide +kernel), List.mem_of_getElem? (i := 583) (by decide +kernel)⟩
def lw_privs_2 : List (MethodName × Nat) := [(⟨"SemiringDeskModel", "isSquare", "(I)Z"⟩, 10), (⟨"SemiringDeskModel", "relax", "()V"⟩, 10)]
theorem lw_r2 : ∀ q ∈ lw_privs_2, lw_okq q := List.forall_mem_cons.mpr ⟨lw_p16, List.forall_mem_cons.mpr ⟨lw_p17, fun _ h => absurd h List.not_mem_nil⟩⟩
def lw_privs : List (MethodName × Nat) := lw_privs_1 ++ (lw_privs_2)
def lw_tbl : List Cond := k2_sels lw_privs ++ tables_1
theorem lw_privs_ok : ∀ q ∈ lw_privs, lw_okq q := by
  show ∀ q ∈ lw_privs_1 ++ (lw_privs_2), lw_okq q
  exact List.forall_mem_append.mpr ⟨lw_r1, lw_r2⟩
end
section
/-! names: classes, fields, methods, code words; which words of the tables a method may lean on -/
abbrev R_D : String := "SemiringDesk"
abbrev R_M : String := "SemiringDesk$Matrix"
abbrev R_R : String := "SemiringDeskModel"
abbrev R_L : String := "SemiringDeskLaw"
def F_D : u_T := fun k => match k with
  | 0 => ("SemiringDesk", "registers", "[LSemiringDesk$Matrix;", true)
  | _ => ("SemiringDesk", "spare", "LSemiringDesk$Matrix;", false)
def t_D : Nat → FieldType := fun k => match k with
  | 0 => .array (.object "SemiringDesk$Matrix")
  | _ => .object "SemiringDesk$Matrix"
theorem n_D : ∀ a, a < 2 → ∀ b, b < 2 → a ≠ b → (F_D a).2.1 ≠ (F_D b).2.1 := by decide +kernel
theorem t_D_ok : ∀ k, k < 2 → parseFieldDescriptor (F_D k).2.2.1 = some (t_D k) := by decide +kernel
def F_M : u_T := fun k => match k with
  | 0 => ("SemiringDesk$Matrix", "rows", "I", false)
  | 1 => ("SemiringDesk$Matrix", "columns", "I", false)
  | 2 => ("SemiringDesk$Matrix", "values", "[J", true)
  | _ => ("SemiringDesk$Matrix", "filled", "[Z", true)
def t_M : Nat → FieldType := fun k => match k with
  | 0 => .int
  | 1 => .int
  | 2 => .array .long
  | _ => .array .boolean
theorem n_M : ∀ a, a < 4 → ∀ b, b < 4 → a ≠ b → (F_M a).2.1 ≠ (F_M b).2.1 := by decide +kernel
theorem t_M_ok : ∀ k, k < 4 → parseFieldDescriptor (F_M k).2.2.1 = some (t_M k) := by decide +kernel
def F_R : u_T := fun k => match k with
  | 0 => ("SemiringDeskModel", "thrown", "I", false)
  | 1 => ("SemiringDeskModel", "rows", "[I", true)
  | 2 => ("SemiringDeskModel", "columns", "[I", true)
  | 3 => ("SemiringDeskModel", "has", "[Z", true)
  | 4 => ("SemiringDeskModel", "value", "[J", true)
  | 5 => ("SemiringDeskModel", "wide", "I", false)
  | 6 => ("SemiringDeskModel", "high", "I", false)
  | 7 => ("SemiringDeskModel", "there", "[Z", true)
  | 8 => ("SemiringDeskModel", "made", "[J", true)
  | _ => ("SemiringDeskModel", "far", "Z", false)
def t_R : Nat → FieldType := fun k => match k with
  | 0 => .int
  | 1 => .array .int
  | 2 => .array .int
  | 3 => .array .boolean
  | 4 => .array .long
  | 5 => .int
  | 6 => .int
  | 7 => .array .boolean
  | 8 => .array .long
  | _ => .boolean
theorem n_R : ∀ a, a < 10 → ∀ b, b < 10 → a ≠ b → (F_R a).2.1 ≠ (F_R b).2.1 := by decide +kernel
theorem t_R_ok : ∀ k, k < 10 → parseFieldDescriptor (F_R k).2.2.1 = some (t_R k) := by decide +kernel
/-- the classes whose objects the worlds hold -/
abbrev vwCl : List vw_C := [(R_D, F_D, 2), (R_M, F_M, 4), (R_R, F_R, 10)]
/-- the arrays that the worlds hold -/
abbrev tyl (c : Nat → ClassId) : List (ClassId × FieldType) := [(c 0, .int), (c 1, .long), (c 2, .boolean), (c 3, .object R_M)]
/-- a word that stays true under warmer tables -/
def pwB : Cond → Bool
  | .castable _ _ => true
  | .declares _ => true
  | .stringRef _ _ _ => true
  | w => goodWord w
/-- the words that every method leans on -/
def gl : List Cond := lw_tbl.filter pwB
theorem gl_of {w : Cond} (h : w ∈ lw_tbl) (hp : pwB w = true) : w ∈ gl := List.mem_filter.mpr ⟨h, hp⟩
theorem gl_T {w : Cond} (h : w ∈ tables_1) (hp : pwB w = true) : w ∈ gl := gl_of (List.mem_append_right _ h) hp
theorem pw_moves {w : Cond} (hp : pwB w = true) {a a' : Array Value} {s U : State} (hW : s.WarmedH U.vm) (h : w.before a s = true) : w.before a' U = true := by
  cases w with
  | castable x y =>
    have h1 : (Cond.castable x y).before a (s.setVm U.vm) = true := Cond.faceAtom_setVm hW.alike _ rfl h
    exact va_tabs (u := s.setVm U.vm) rfl rfl h1
  | declares x =>
    have h1 : (Cond.declares x).before a (s.setVm U.vm) = true := Cond.faceAtom_setVm hW.alike _ rfl h
    exact va_tabs (u := s.setVm U.vm) rfl rfl h1
  | stringRef x y z =>
    have h1 : (Cond.stringRef x y z).before a (s.setVm U.vm) = true := Cond.stringRef_warmed hW h
    simp only [Cond.before, Cond.holds, Cond.value, State.names, State.poolOf?, State.resolvedAt?] at h1 ⊢
    exact h1
  | _ => exact word_at hW (good_of_word hp) h
theorem gl_moves {w : Cond} (hw : w ∈ gl) {a a' : Array Value} {s U : State} (hW : s.WarmedH U.vm) (h : w.before a s = true) : w.before a' U = true := pw_moves (List.mem_filter.mp hw).2 hW h
theorem in_D : ∀ w ∈ u_ws R_D F_D 2, w ∈ gl := by decide +kernel
theorem in_M : ∀ w ∈ u_ws R_M F_M 4, w ∈ gl := by decide +kernel
theorem in_R : ∀ w ∈ u_ws R_R F_R 10, w ∈ gl := by decide +kernel
abbrev b_D_init : ByteArray := prog_1_method_1_code
abbrev y_D_init : MethodName := ⟨R_D, "<init>", "()V"⟩
abbrev cw_D_init : Cond := .code y_D_init b_D_init 2 none
abbrev b_D_shape : ByteArray := prog_1_method_2_code
abbrev y_D_shape : MethodName := ⟨R_D, "shape", "(III)V"⟩
abbrev cw_D_shape : Cond := .code y_D_shape b_D_shape 4 none
abbrev b_D_put : ByteArray := prog_1_method_3_code
abbrev y_D_put : MethodName := ⟨R_D, "put", "(IIIJ)V"⟩
abbrev cw_D_put : Cond := .code y_D_put b_D_put 6 none
abbrev b_D_drop : ByteArray := prog_1_method_4_code
abbrev y_D_drop : MethodName := ⟨R_D, "drop", "(III)Z"⟩
abbrev cw_D_drop : Cond := .code y_D_drop b_D_drop 5 (some .boolean)
abbrev b_D_at : ByteArray := prog_1_method_5_code
abbrev y_D_at : MethodName := ⟨R_D, "at", "(III)J"⟩
abbrev cw_D_at : Cond := .code y_D_at b_D_at 4 (some .long)
abbrev b_D_size : ByteArray := prog_1_method_6_code
abbrev y_D_size : MethodName := ⟨R_D, "size", "(I)I"⟩
abbrev cw_D_size : Cond := .code y_D_size b_D_size 3 (some .int)
abbrev b_D_multiply : ByteArray := prog_1_method_7_code
abbrev y_D_multiply : MethodName := ⟨R_D, "multiply", "(IIIIII)I"⟩
abbrev cw_D_multiply : Cond := .code y_D_multiply b_D_multiply 14 (some .int)
abbrev b_D_add : ByteArray := prog_1_method_8_code
abbrev y_D_add : MethodName := ⟨R_D, "add", "(IIII)I"⟩
abbrev cw_D_add : Cond := .code y_D_add b_D_add 6 (some .int)
abbrev b_D_each : ByteArray := prog_1_method_9_code
abbrev y_D_each : MethodName := ⟨R_D, "each", "(IIII)I"⟩
abbrev cw_D_each : Cond := .code y_D_each b_D_each 10 (some .int)
abbrev b_D_transpose : ByteArray := prog_1_method_10_code
abbrev y_D_transpose : MethodName := ⟨R_D, "transpose", "(II)I"⟩
abbrev cw_D_transpose : Cond := .code y_D_transpose b_D_transpose 7 (some .int)
abbrev b_D_select : ByteArray := prog_1_method_11_code
abbrev y_D_select : MethodName := ⟨R_D, "select", "(IIIJ)I"⟩
abbrev cw_D_select : Cond := .code y_D_select b_D_select 10 (some .int)
abbrev b_D_reduce : ByteArray := prog_1_method_12_code
abbrev y_D_reduce : MethodName := ⟨R_D, "reduce", "(II)J"⟩
abbrev cw_D_reduce : Cond := .code y_D_reduce b_D_reduce 7 (some .long)
abbrev b_D_levels : ByteArray := prog_1_method_13_code
abbrev y_D_levels : MethodName := ⟨R_D, "levels", "(III)I"⟩
abbrev cw_D_levels : Cond := .code y_D_levels b_D_levels 7 (some .int)
abbrev b_D_paths : ByteArray := prog_1_method_14_code
abbrev y_D_paths : MethodName := ⟨R_D, "paths", "(II)I"⟩
abbrev cw_D_paths : Cond := .code y_D_paths b_D_paths 6 (some .int)
abbrev b_D_triangles : ByteArray := prog_1_method_15_code
abbrev y_D_triangles : MethodName := ⟨R_D, "triangles", "(I)I"⟩
abbrev cw_D_triangles : Cond := .code y_D_triangles b_D_triangles 7 (some .int)
abbrev b_D_components : ByteArray := prog_1_method_16_code
abbrev y_D_components : MethodName := ⟨R_D, "components", "(II)I"⟩
abbrev cw_D_components : Cond := .code y_D_components b_D_components 6 (some .int)
abbrev b_D_blank : ByteArray := prog_1_method_17_code
abbrev y_D_blank : MethodName := ⟨R_D, "blank", "(II)LSemiringDesk$Matrix;"⟩
abbrev cw_D_blank : Cond := .code y_D_blank b_D_blank 3 (some (.object "SemiringDesk$Matrix"))
abbrev b_D_keep : ByteArray := prog_1_method_18_code
abbrev y_D_keep : MethodName := ⟨R_D, "keep", "(I)I"⟩
abbrev cw_D_keep : Cond := .code y_D_keep b_D_keep 3 (some .int)
abbrev b_D_gatherProducts : ByteArray := prog_1_method_19_code
abbrev y_D_gatherProducts : MethodName := ⟨R_D, "gatherProducts", "(LSemiringDesk$Matrix;LSemiringDesk$Matrix;LSemiringDesk$Matrix;III)V"⟩
abbrev cw_D_gatherProducts : Cond := .code y_D_gatherProducts b_D_gatherProducts 7 none
abbrev b_D_gatherAll : ByteArray := prog_1_method_20_code
abbrev y_D_gatherAll : MethodName := ⟨R_D, "gatherAll", "(LSemiringDesk$Matrix;LSemiringDesk$Matrix;I)V"⟩
abbrev cw_D_gatherAll : Cond := .code y_D_gatherAll b_D_gatherAll 5 none
abbrev b_D_gather : ByteArray := prog_1_method_21_code
abbrev y_D_gather : MethodName := ⟨R_D, "gather", "(LSemiringDesk$Matrix;IIJI)V"⟩
abbrev cw_D_gather : Cond := .code y_D_gather b_D_gather 6 none
abbrev b_D_dropZeros : ByteArray := prog_1_method_22_code
abbrev y_D_dropZeros : MethodName := ⟨R_D, "dropZeros", "(LSemiringDesk$Matrix;I)V"⟩
abbrev cw_D_dropZeros : Cond := .code y_D_dropZeros b_D_dropZeros 4 none
abbrev b_D_sumOver : ByteArray := prog_1_method_23_code
abbrev y_D_sumOver : MethodName := ⟨R_D, "sumOver", "(IJJ)J"⟩
abbrev cw_D_sumOver : Cond := .code y_D_sumOver b_D_sumOver 5 (some .long)
abbrev b_D_productOver : ByteArray := prog_1_method_24_code
abbrev y_D_productOver : MethodName := ⟨R_D, "productOver", "(IJJ)J"⟩
abbrev cw_D_productOver : Cond := .code y_D_productOver b_D_productOver 5 (some .long)
abbrev b_D_plus : ByteArray := prog_1_method_25_code
abbrev y_D_plus : MethodName := ⟨R_D, "plus", "(JJ)J"⟩
abbrev cw_D_plus : Cond := .code y_D_plus b_D_plus 6 (some .long)
abbrev b_D_times : ByteArray := prog_1_method_26_code
abbrev y_D_times : MethodName := ⟨R_D, "times", "(JJ)J"⟩
abbrev cw_D_times : Cond := .code y_D_times b_D_times 4 (some .long)
abbrev b_D_isSelected : ByteArray := prog_1_method_27_code
abbrev y_D_isSelected : MethodName := ⟨R_D, "isSelected", "(IIIJJ)Z"⟩
abbrev cw_D_isSelected : Cond := .code y_D_isSelected b_D_isSelected 7 (some .boolean)
abbrev b_D_enterNextLevel : ByteArray := prog_1_method_28_code
abbrev y_D_enterNextLevel : MethodName := ⟨R_D, "enterNextLevel", "(LSemiringDesk$Matrix;LSemiringDesk$Matrix;I)V"⟩
abbrev cw_D_enterNextLevel : Cond := .code y_D_enterNextLevel b_D_enterNextLevel 4 none
abbrev b_D_enterNeighbours : ByteArray := prog_1_method_29_code
abbrev y_D_enterNeighbours : MethodName := ⟨R_D, "enterNeighbours", "(LSemiringDesk$Matrix;LSemiringDesk$Matrix;II)V"⟩
abbrev cw_D_enterNeighbours : Cond := .code y_D_enterNeighbours b_D_enterNeighbours 5 none
abbrev b_D_shortenOver : ByteArray := prog_1_method_30_code
abbrev y_D_shortenOver : MethodName := ⟨R_D, "shortenOver", "(LSemiringDesk$Matrix;I)V"⟩
abbrev cw_D_shortenOver : Cond := .code y_D_shortenOver b_D_shortenOver 6 none
abbrev b_D_spreadLeastVertices : ByteArray := prog_1_method_31_code
abbrev y_D_spreadLeastVertices : MethodName := ⟨R_D, "spreadLeastVertices", "(LSemiringDesk$Matrix;LSemiringDesk$Matrix;)V"⟩
abbrev cw_D_spreadLeastVertices : Cond := .code y_D_spreadLeastVertices b_D_spreadLeastVertices 6 none
abbrev b_D_isValue : ByteArray := prog_1_method_32_code
abbrev y_D_isValue : MethodName := ⟨R_D, "isValue", "(J)Z"⟩
abbrev cw_D_isValue : Cond := .code y_D_isValue b_D_isValue 2 (some .boolean)
abbrev b_D_requireRegister : ByteArray := prog_1_method_33_code
abbrev y_D_requireRegister : MethodName := ⟨R_D, "requireRegister", "(I)V"⟩
abbrev cw_D_requireRegister : Cond := .code y_D_requireRegister b_D_requireRegister 1 none
abbrev b_D_requireSemiring : ByteArray := prog_1_method_34_code
abbrev y_D_requireSemiring : MethodName := ⟨R_D, "requireSemiring", "(I)V"⟩
abbrev cw_D_requireSemiring : Cond := .code y_D_requireSemiring b_D_requireSemiring 1 none
abbrev b_D_requireOperands : ByteArray := prog_1_method_35_code
abbrev y_D_requireOperands : MethodName := ⟨R_D, "requireOperands", "(IIII)V"⟩
abbrev cw_D_requireOperands : Cond := .code y_D_requireOperands b_D_requireOperands 4 none
abbrev b_D_requireMask : ByteArray := prog_1_method_36_code
abbrev y_D_requireMask : MethodName := ⟨R_D, "requireMask", "(I)V"⟩
abbrev cw_D_requireMask : Cond := .code y_D_requireMask b_D_requireMask 1 none
abbrev b_D_requireHow : ByteArray := prog_1_method_37_code
abbrev y_D_requireHow : MethodName := ⟨R_D, "requireHow", "(II)V"⟩
abbrev cw_D_requireHow : Cond := .code y_D_requireHow b_D_requireHow 2 none
abbrev b_D_requireSide : ByteArray := prog_1_method_38_code
abbrev y_D_requireSide : MethodName := ⟨R_D, "requireSide", "(I)V"⟩
abbrev cw_D_requireSide : Cond := .code y_D_requireSide b_D_requireSide 1 none
abbrev b_D_requirePlace : ByteArray := prog_1_method_39_code
abbrev y_D_requirePlace : MethodName := ⟨R_D, "requirePlace", "(III)V"⟩
abbrev cw_D_requirePlace : Cond := .code y_D_requirePlace b_D_requirePlace 4 none
abbrev b_D_requireValue : ByteArray := prog_1_method_40_code
abbrev y_D_requireValue : MethodName := ⟨R_D, "requireValue", "(J)V"⟩
abbrev cw_D_requireValue : Cond := .code y_D_requireValue b_D_requireValue 2 none
abbrev b_D_requireEntry : ByteArray := prog_1_method_41_code
abbrev y_D_requireEntry : MethodName := ⟨R_D, "requireEntry", "(Z)V"⟩
abbrev cw_D_requireEntry : Cond := .code y_D_requireEntry b_D_requireEntry 1 none
abbrev b_D_requireFit : ByteArray := prog_1_method_42_code
abbrev y_D_requireFit : MethodName := ⟨R_D, "requireFit", "(Z)V"⟩
abbrev cw_D_requireFit : Cond := .code y_D_requireFit b_D_requireFit 1 none
abbrev b_D_requireSameShape : ByteArray := prog_1_method_43_code
abbrev y_D_requireSameShape : MethodName := ⟨R_D, "requireSameShape", "(II)V"⟩
abbrev cw_D_requireSameShape : Cond := .code y_D_requireSameShape b_D_requireSameShape 3 none
abbrev b_D_requireGraph : ByteArray := prog_1_method_44_code
abbrev y_D_requireGraph : MethodName := ⟨R_D, "requireGraph", "(I)V"⟩
abbrev cw_D_requireGraph : Cond := .code y_D_requireGraph b_D_requireGraph 2 none
abbrev b_D_requireVertex : ByteArray := prog_1_method_45_code
abbrev y_D_requireVertex : MethodName := ⟨R_D, "requireVertex", "(LSemiringDesk$Matrix;I)V"⟩
abbrev cw_D_requireVertex : Cond := .code y_D_requireVertex b_D_requireVertex 2 none
abbrev b_D_requireLengths : ByteArray := prog_1_method_46_code
abbrev y_D_requireLengths : MethodName := ⟨R_D, "requireLengths", "(LSemiringDesk$Matrix;)V"⟩
abbrev cw_D_requireLengths : Cond := .code y_D_requireLengths b_D_requireLengths 3 none
abbrev b_D_requireNoCircleBelowZero : ByteArray := prog_1_method_47_code
abbrev y_D_requireNoCircleBelowZero : MethodName := ⟨R_D, "requireNoCircleBelowZero", "(LSemiringDesk$Matrix;)V"⟩
abbrev cw_D_requireNoCircleBelowZero : Cond := .code y_D_requireNoCircleBelowZero b_D_requireNoCircleBelowZero 2 none
abbrev b_R_init : ByteArray := prog_4_method_1_code
abbrev y_R_init : MethodName := ⟨R_R, "<init>", "()V"⟩
abbrev cw_R_init : Cond := .code y_R_init b_R_init 1 none
abbrev b_R_thrown : ByteArray := prog_4_method_2_code
abbrev y_R_thrown : MethodName := ⟨R_R, "thrown", "()I"⟩
abbrev cw_R_thrown : Cond := .code y_R_thrown b_R_thrown 1 (some .int)
abbrev b_R_isRegister : ByteArray := prog_4_method_3_code
abbrev y_R_isRegister : MethodName := ⟨R_R, "isRegister", "(I)Z"⟩
abbrev cw_R_isRegister : Cond := .code y_R_isRegister b_R_isRegister 1 (some .boolean)
abbrev b_R_isRing : ByteArray := prog_4_method_4_code
abbrev y_R_isRing : MethodName := ⟨R_R, "isRing", "(I)Z"⟩
abbrev cw_R_isRing : Cond := .code y_R_isRing b_R_isRing 1 (some .boolean)
abbrev b_R_isValue : ByteArray := prog_4_method_5_code
abbrev y_R_isValue : MethodName := ⟨R_R, "isValue", "(J)Z"⟩
abbrev cw_R_isValue : Cond := .code y_R_isValue b_R_isValue 2 (some .boolean)
abbrev b_R_isPlace : ByteArray := prog_4_method_6_code
abbrev y_R_isPlace : MethodName := ⟨R_R, "isPlace", "(III)Z"⟩
abbrev cw_R_isPlace : Cond := .code y_R_isPlace b_R_isPlace 4 (some .boolean)
abbrev b_R_shape : ByteArray := prog_4_method_7_code
abbrev y_R_shape : MethodName := ⟨R_R, "shape", "(III)V"⟩
abbrev cw_R_shape : Cond := .code y_R_shape b_R_shape 5 none
abbrev b_R_put : ByteArray := prog_4_method_8_code
abbrev y_R_put : MethodName := ⟨R_R, "put", "(IIIJ)V"⟩
abbrev cw_R_put : Cond := .code y_R_put b_R_put 6 none
abbrev b_R_drop : ByteArray := prog_4_method_9_code
abbrev y_R_drop : MethodName := ⟨R_R, "drop", "(III)Z"⟩
abbrev cw_R_drop : Cond := .code y_R_drop b_R_drop 5 (some .boolean)
abbrev b_R_at : ByteArray := prog_4_method_10_code
abbrev y_R_at : MethodName := ⟨R_R, "at", "(III)J"⟩
abbrev cw_R_at : Cond := .code y_R_at b_R_at 4 (some .long)
abbrev b_R_entries : ByteArray := prog_4_method_11_code
abbrev y_R_entries : MethodName := ⟨R_R, "entries", "(I)I"⟩
abbrev cw_R_entries : Cond := .code y_R_entries b_R_entries 4 (some .int)
abbrev b_R_size : ByteArray := prog_4_method_12_code
abbrev y_R_size : MethodName := ⟨R_R, "size", "(I)I"⟩
abbrev cw_R_size : Cond := .code y_R_size b_R_size 2 (some .int)
abbrev b_R_sum : ByteArray := prog_4_method_13_code
abbrev y_R_sum : MethodName := ⟨R_R, "sum", "(IJJ)J"⟩
abbrev cw_R_sum : Cond := .code y_R_sum b_R_sum 8 (some .long)
abbrev b_R_size0 : ByteArray := prog_4_method_14_code
abbrev y_R_size0 : MethodName := ⟨R_R, "size0", "(J)J"⟩
abbrev cw_R_size0 : Cond := .code y_R_size0 b_R_size0 2 (some .long)
abbrev b_R_product : ByteArray := prog_4_method_15_code
abbrev y_R_product : MethodName := ⟨R_R, "product", "(IJJ)J"⟩
abbrev cw_R_product : Cond := .code y_R_product b_R_product 8 (some .long)
abbrev b_R_begin : ByteArray := prog_4_method_16_code
abbrev y_R_begin : MethodName := ⟨R_R, "begin", "(II)V"⟩
abbrev cw_R_begin : Cond := .code y_R_begin b_R_begin 4 none
abbrev b_R_make : ByteArray := prog_4_method_17_code
abbrev y_R_make : MethodName := ⟨R_R, "make", "(IIJ)V"⟩
abbrev cw_R_make : Cond := .code y_R_make b_R_make 5 none
abbrev b_R_finish : ByteArray := prog_4_method_18_code
abbrev y_R_finish : MethodName := ⟨R_R, "finish", "(II)I"⟩
abbrev cw_R_finish : Cond := .code y_R_finish b_R_finish 4 (some .int)
abbrev b_R_cross : ByteArray := prog_4_method_19_code
abbrev y_R_cross : MethodName := ⟨R_R, "cross", "(IIIII)V"⟩
abbrev cw_R_cross : Cond := .code y_R_cross b_R_cross 14 none
abbrev b_R_join : ByteArray := prog_4_method_20_code
abbrev y_R_join : MethodName := ⟨R_R, "join", "(II)V"⟩
abbrev cw_R_join : Cond := .code y_R_join b_R_join 5 none
abbrev b_R_multiply : ByteArray := prog_4_method_21_code
abbrev y_R_multiply : MethodName := ⟨R_R, "multiply", "(IIIIII)I"⟩
abbrev cw_R_multiply : Cond := .code y_R_multiply b_R_multiply 11 (some .int)
abbrev b_R_pair : ByteArray := prog_4_method_22_code
abbrev y_R_pair : MethodName := ⟨R_R, "pair", "(IIII)I"⟩
abbrev cw_R_pair : Cond := .code y_R_pair b_R_pair 5 (some .int)
abbrev b_R_add : ByteArray := prog_4_method_23_code
abbrev y_R_add : MethodName := ⟨R_R, "add", "(IIII)I"⟩
abbrev cw_R_add : Cond := .code y_R_add b_R_add 8 (some .int)
abbrev b_R_each : ByteArray := prog_4_method_24_code
abbrev y_R_each : MethodName := ⟨R_R, "each", "(IIII)I"⟩
abbrev cw_R_each : Cond := .code y_R_each b_R_each 6 (some .int)
abbrev b_R_transpose : ByteArray := prog_4_method_25_code
abbrev y_R_transpose : MethodName := ⟨R_R, "transpose", "(II)I"⟩
abbrev cw_R_transpose : Cond := .code y_R_transpose b_R_transpose 4 (some .int)
abbrev b_R_chosen : ByteArray := prog_4_method_26_code
abbrev y_R_chosen : MethodName := ⟨R_R, "chosen", "(IIIJJ)Z"⟩
abbrev cw_R_chosen : Cond := .code y_R_chosen b_R_chosen 7 (some .boolean)
abbrev b_R_select : ByteArray := prog_4_method_27_code
abbrev y_R_select : MethodName := ⟨R_R, "select", "(IIIJ)I"⟩
abbrev cw_R_select : Cond := .code y_R_select b_R_select 7 (some .int)
abbrev b_R_reduce : ByteArray := prog_4_method_28_code
abbrev y_R_reduce : MethodName := ⟨R_R, "reduce", "(II)J"⟩
abbrev cw_R_reduce : Cond := .code y_R_reduce b_R_reduce 7 (some .long)
abbrev b_R_isSquare : ByteArray := prog_4_method_29_code
abbrev y_R_isSquare : MethodName := ⟨R_R, "isSquare", "(I)Z"⟩
abbrev cw_R_isSquare : Cond := .code y_R_isSquare b_R_isSquare 2 (some .boolean)
abbrev b_R_levels : ByteArray := prog_4_method_30_code
abbrev y_R_levels : MethodName := ⟨R_R, "levels", "(III)I"⟩
abbrev cw_R_levels : Cond := .code y_R_levels b_R_levels 7 (some .int)
abbrev b_R_relax : ByteArray := prog_4_method_31_code
abbrev y_R_relax : MethodName := ⟨R_R, "relax", "()V"⟩
abbrev cw_R_relax : Cond := .code y_R_relax b_R_relax 6 none
abbrev b_R_paths : ByteArray := prog_4_method_32_code
abbrev y_R_paths : MethodName := ⟨R_R, "paths", "(II)I"⟩
abbrev cw_R_paths : Cond := .code y_R_paths b_R_paths 6 (some .int)
abbrev b_R_triangles : ByteArray := prog_4_method_33_code
abbrev y_R_triangles : MethodName := ⟨R_R, "triangles", "(I)I"⟩
abbrev cw_R_triangles : Cond := .code y_R_triangles b_R_triangles 7 (some .int)
abbrev b_R_components : ByteArray := prog_4_method_34_code
abbrev y_R_components : MethodName := ⟨R_R, "components", "(II)I"⟩
abbrev cw_R_components : Cond := .code y_R_components b_R_components 8 (some .int)
abbrev b_M_init : ByteArray := prog_2_method_1_code
abbrev y_M_init : MethodName := ⟨R_M, "<init>", "()V"⟩
abbrev cw_M_init : Cond := .code y_M_init b_M_init 1 none
abbrev b_M_clear : ByteArray := prog_2_method_2_code
abbrev y_M_clear : MethodName := ⟨R_M, "clear", "(II)V"⟩
abbrev cw_M_clear : Cond := .code y_M_clear b_M_clear 4 none
abbrev b_M_isShaped : ByteArray := prog_2_method_3_code
abbrev y_M_isShaped : MethodName := ⟨R_M, "isShaped", "(II)Z"⟩
abbrev cw_M_isShaped : Cond := .code y_M_isShaped b_M_isShaped 3 (some .boolean)
abbrev b_M_has : ByteArray := prog_2_method_4_code
abbrev y_M_has : MethodName := ⟨R_M, "has", "(II)Z"⟩
abbrev cw_M_has : Cond := .code y_M_has b_M_has 3 (some .boolean)
abbrev b_M_value : ByteArray := prog_2_method_5_code
abbrev y_M_value : MethodName := ⟨R_M, "value", "(II)J"⟩
abbrev cw_M_value : Cond := .code y_M_value b_M_value 3 (some .long)
abbrev b_M_enter : ByteArray := prog_2_method_6_code
abbrev y_M_enter : MethodName := ⟨R_M, "enter", "(IIJ)V"⟩
abbrev cw_M_enter : Cond := .code y_M_enter b_M_enter 5 none
abbrev b_M_remove : ByteArray := prog_2_method_7_code
abbrev y_M_remove : MethodName := ⟨R_M, "remove", "(II)V"⟩
abbrev cw_M_remove : Cond := .code y_M_remove b_M_remove 3 none
abbrev b_M_count : ByteArray := prog_2_method_8_code
abbrev y_M_count : MethodName := ⟨R_M, "count", "()I"⟩
abbrev cw_M_count : Cond := .code y_M_count b_M_count 3 (some .int)
abbrev b_L_shape : ByteArray := method_3_code
abbrev y_L_shape : MethodName := ⟨R_L, "shape", "(LSemiringDesk;III)I"⟩
abbrev hh_L_shape : List (Nat × Nat × Nat × Nat) := [(0, 7, 10, 13)]
abbrev cw_L_shape : Cond := .codeWith y_L_shape b_L_shape 5 (some .int) hh_L_shape
abbrev b_L_put : ByteArray := method_4_code
abbrev y_L_put : MethodName := ⟨R_L, "put", "(LSemiringDesk;IIIJ)I"⟩
abbrev hh_L_put : List (Nat × Nat × Nat × Nat) := [(0, 9, 12, 13)]
abbrev cw_L_put : Cond := .codeWith y_L_put b_L_put 7 (some .int) hh_L_put
abbrev b_L_drop : ByteArray := method_5_code
abbrev y_L_drop : MethodName := ⟨R_L, "drop", "(LSemiringDesk;III[J)I"⟩
abbrev hh_L_drop : List (Nat × Nat × Nat × Nat) := [(0, 19, 22, 13)]
abbrev cw_L_drop : Cond := .codeWith y_L_drop b_L_drop 6 (some .int) hh_L_drop
abbrev b_L_at : ByteArray := method_6_code
abbrev y_L_at : MethodName := ⟨R_L, "at", "(LSemiringDesk;III[J)I"⟩
abbrev hh_L_at : List (Nat × Nat × Nat × Nat) := [(0, 11, 14, 13), (0, 11, 18, 27)]
abbrev cw_L_at : Cond := .codeWith y_L_at b_L_at 6 (some .int) hh_L_at
abbrev b_L_size : ByteArray := method_7_code
abbrev y_L_size : MethodName := ⟨R_L, "size", "(LSemiringDesk;I[J)I"⟩
abbrev hh_L_size : List (Nat × Nat × Nat × Nat) := [(0, 9, 12, 13)]
abbrev cw_L_size : Cond := .codeWith y_L_size b_L_size 4 (some .int) hh_L_size
abbrev b_L_multiply : ByteArray := method_8_code
abbrev y_L_multiply : MethodName := ⟨R_L, "multiply", "(LSemiringDesk;IIIIII[J)I"⟩
abbrev hh_L_multiply : List (Nat × Nat × Nat × Nat) := [(0, 18, 21, 13), (0, 18, 25, 37), (0, 18, 29, 39)]
abbrev cw_L_multiply : Cond := .codeWith y_L_multiply b_L_multiply 9 (some .int) hh_L_multiply
abbrev b_L_add : ByteArray := method_9_code
abbrev y_L_add : MethodName := ⟨R_L, "add", "(LSemiringDesk;IIII[J)I"⟩
abbrev hh_L_add : List (Nat × Nat × Nat × Nat) := [(0, 14, 17, 13), (0, 14, 21, 37), (0, 14, 25, 39)]
abbrev cw_L_add : Cond := .codeWith y_L_add b_L_add 7 (some .int) hh_L_add
abbrev b_L_each : ByteArray := method_10_code
abbrev y_L_each : MethodName := ⟨R_L, "each", "(LSemiringDesk;IIII[J)I"⟩
abbrev hh_L_each : List (Nat × Nat × Nat × Nat) := [(0, 14, 17, 13), (0, 14, 21, 37), (0, 14, 25, 39)]
abbrev cw_L_each : Cond := .codeWith y_L_each b_L_each 7 (some .int) hh_L_each
abbrev b_L_transpose : ByteArray := method_11_code
abbrev y_L_transpose : MethodName := ⟨R_L, "transpose", "(LSemiringDesk;II[J)I"⟩
abbrev hh_L_transpose : List (Nat × Nat × Nat × Nat) := [(0, 10, 13, 13)]
abbrev cw_L_transpose : Cond := .codeWith y_L_transpose b_L_transpose 5 (some .int) hh_L_transpose
abbrev b_L_select : ByteArray := method_12_code
abbrev y_L_select : MethodName := ⟨R_L, "select", "(LSemiringDesk;IIIJ[J)I"⟩
abbrev hh_L_select : List (Nat × Nat × Nat × Nat) := [(0, 14, 17, 13)]
abbrev cw_L_select : Cond := .codeWith y_L_select b_L_select 8 (some .int) hh_L_select
abbrev b_L_reduce : ByteArray := method_13_code
abbrev y_L_reduce : MethodName := ⟨R_L, "reduce", "(LSemiringDesk;II[J)I"⟩
abbrev hh_L_reduce : List (Nat × Nat × Nat × Nat) := [(0, 9, 12, 13), (0, 9, 16, 27), (0, 9, 20, 39)]
abbrev cw_L_reduce : Cond := .codeWith y_L_reduce b_L_reduce 5 (some .int) hh_L_reduce
abbrev b_L_levels : ByteArray := method_14_code
abbrev y_L_levels : MethodName := ⟨R_L, "levels", "(LSemiringDesk;III[J)I"⟩
abbrev hh_L_levels : List (Nat × Nat × Nat × Nat) := [(0, 12, 15, 13), (0, 12, 19, 37), (0, 12, 23, 27)]
abbrev cw_L_levels : Cond := .codeWith y_L_levels b_L_levels 6 (some .int) hh_L_levels
abbrev b_L_paths : ByteArray := method_15_code
abbrev y_L_paths : MethodName := ⟨R_L, "paths", "(LSemiringDesk;II[J)I"⟩
abbrev hh_L_paths : List (Nat × Nat × Nat × Nat) := [(0, 10, 13, 13), (0, 10, 17, 37), (0, 10, 21, 39), (0, 10, 25, 27)]
abbrev cw_L_paths : Cond := .codeWith y_L_paths b_L_paths 5 (some .int) hh_L_paths
abbrev b_L_triangles : ByteArray := method_16_code
abbrev y_L_triangles : MethodName := ⟨R_L, "triangles", "(LSemiringDesk;I[J)I"⟩
abbrev hh_L_triangles : List (Nat × Nat × Nat × Nat) := [(0, 9, 12, 13), (0, 9, 15, 37)]
abbrev cw_L_triangles : Cond := .codeWith y_L_triangles b_L_triangles 4 (some .int) hh_L_triangles
abbrev b_L_components : ByteArray := method_17_code
abbrev y_L_components : MethodName := ⟨R_L, "components", "(LSemiringDesk;II[J)I"⟩
abbrev hh_L_components : List (Nat × Nat × Nat × Nat) := [(0, 10, 13, 13), (0, 10, 17, 37)]
abbrev cw_L_components : Cond := .codeWith y_L_components b_L_components 5 (some .int) hh_L_components
end
section
set_option maxRecDepth 100000 in
theorem kc_D_init : cw_D_init ∈ gl := gl_T (List.mem_append_left _ (List.mem_of_getElem? (i := 16) rfl)) rfl
set_option maxRecDepth 100000 in
theorem kc_D_shape : cw_D_shape ∈ gl := gl_T (List.mem_append_left _ (List.mem_of_getElem? (i := 58) rfl)) rfl
set_option maxRecDepth 100000 in
theorem kc_D_put : cw_D_put ∈ gl := gl_T (List.mem_append_left _ (List.mem_of_getElem? (i := 145) rfl)) rfl
set_option maxRecDepth 100000 in
theorem kc_D_drop : cw_D_drop ∈ gl := gl_T (List.mem_append_left _ (List.mem_of_getElem? (i := 170) rfl)) rfl
set_option maxRecDepth 100000 in
theorem kc_D_at : cw_D_at ∈ gl := gl_T (List.mem_append_left _ (List.mem_of_getElem? (i := 186) rfl)) rfl
set_option maxRecDepth 100000 in
theorem kc_D_size : cw_D_size ∈ gl := gl_T (List.mem_append_left _ (List.mem_of_getElem? (i := 216) rfl)) rfl
set_option maxRecDepth 100000 in
theorem kc_D_multiply : cw_D_multiply ∈ gl := gl_T (List.mem_append_left _ (List.mem_of_getElem? (i := 229) rfl)) rfl
set_option maxRecDepth 100000 in
theorem kc_D_add : cw_D_add ∈ gl := gl_T (List.mem_append_right _ (List.mem_append_left _ (List.mem_of_getElem? (i := 91) rfl))) rfl
set_option maxRecDepth 100000 in
theorem kc_D_each : cw_D_each ∈ gl := gl_T (List.mem_append_right _ (List.mem_append_left _ (List.mem_of_getElem? (i := 102) rfl))) rfl
set_option maxRecDepth 100000 in
theorem kc_D_transpose : cw_D_transpose ∈ gl := gl_T (List.mem_append_right _ (List.mem_append_left _ (List.mem_of_getElem? (i := 109) rfl))) rfl
set_option maxRecDepth 100000 in
theorem kc_D_select : cw_D_select ∈ gl := gl_T (List.mem_append_right _ (List.mem_append_left _ (List.mem_of_getElem? (i := 116) rfl))) rfl
set_option maxRecDepth 100000 in
theorem kc_D_reduce : cw_D_reduce ∈ gl := gl_T (List.mem_append_right _ (List.mem_append_left _ (List.mem_of_getElem? (i := 126) rfl))) rfl
set_option maxRecDepth 100000 in
theorem kc_D_levels : cw_D_levels ∈ gl := gl_T (List.mem_append_right _ (List.mem_append_left _ (List.mem_of_getElem? (i := 133) rfl))) rfl
set_option maxRecDepth 100000 in
theorem kc_D_paths : cw_D_paths ∈ gl := gl_T (List.mem_append_right _ (List.mem_append_left _ (List.mem_of_getElem? (i := 154) rfl))) rfl
set_option maxRecDepth 100000 in
theorem kc_D_triangles : cw_D_triangles ∈ gl := gl_T (List.mem_append_right _ (List.mem_append_left _ (List.mem_of_getElem? (i := 173) rfl))) rfl
set_option maxRecDepth 100000 in
theorem kc_D_components : cw_D_components ∈ gl := gl_T (List.mem_append_right _ (List.mem_append_left _ (List.mem_of_getElem? (i := 180) rfl))) rfl
set_option maxRecDepth 100000 in
theorem kc_D_blank : cw_D_blank ∈ gl := gl_T (List.mem_append_right _ (List.mem_append_left _ (List.mem_of_getElem? (i := 30) rfl))) rfl
set_option maxRecDepth 100000 in
theorem kc_D_keep : cw_D_keep ∈ gl := gl_T (List.mem_append_right _ (List.mem_append_left _ (List.mem_of_getElem? (i := 84) rfl))) rfl
set_option maxRecDepth 100000 in
theorem kc_D_gatherProducts : cw_D_gatherProducts ∈ gl := gl_T (List.mem_append_right _ (List.mem_append_left _ (List.mem_of_getElem? (i := 33) rfl))) rfl
set_option maxRecDepth 100000 in
theorem kc_D_gatherAll : cw_D_gatherAll ∈ gl := gl_T (List.mem_append_right _ (List.mem_append_left _ (List.mem_of_getElem? (i := 77) rfl))) rfl
set_option maxRecDepth 100000 in
theorem kc_D_gather : cw_D_gather ∈ gl := gl_T (List.mem_append_right _ (List.mem_append_left _ (List.mem_of_getElem? (i := 68) rfl))) rfl
set_option maxRecDepth 100000 in
theorem kc_D_dropZeros : cw_D_dropZeros ∈ gl := gl_T (List.mem_append_right _ (List.mem_append_left _ (List.mem_of_getElem? (i := 80) rfl))) rfl
set_option maxRecDepth 100000 in
theorem kc_D_sumOver : cw_D_sumOver ∈ gl := gl_T (List.mem_append_right _ (List.mem_append_left _ (List.mem_of_getElem? (i := 71) rfl))) rfl
set_option maxRecDepth 100000 in
theorem kc_D_productOver : cw_D_productOver ∈ gl := gl_T (List.mem_append_right _ (List.mem_append_left _ (List.mem_of_getElem? (i := 36) rfl))) rfl
set_option maxRecDepth 100000 in
theorem kc_D_plus : cw_D_plus ∈ gl := gl_T (List.mem_append_right _ (List.mem_append_left _ (List.mem_of_getElem? (i := 61) rfl))) rfl
set_option maxRecDepth 100000 in
theorem kc_D_times : cw_D_times ∈ gl := gl_T (List.mem_append_right _ (List.mem_append_left _ (List.mem_of_getElem? (i := 39) rfl))) rfl
set_option maxRecDepth 100000 in
theorem kc_D_isSelected : cw_D_isSelected ∈ gl := gl_T (List.mem_append_right _ (List.mem_append_left _ (List.mem_of_getElem? (i := 119) rfl))) rfl
set_option maxRecDepth 100000 in
theorem kc_D_enterNextLevel : cw_D_enterNextLevel ∈ gl := gl_T (List.mem_append_right _ (List.mem_append_left _ (List.mem_of_getElem? (i := 144) rfl))) rfl
set_option maxRecDepth 100000 in
theorem kc_D_enterNeighbours : cw_D_enterNeighbours ∈ gl := gl_T (List.mem_append_right _ (List.mem_append_left _ (List.mem_of_getElem? (i := 147) rfl))) rfl
set_option maxRecDepth 100000 in
theorem kc_D_shortenOver : cw_D_shortenOver ∈ gl := gl_T (List.mem_append_right _ (List.mem_append_left _ (List.mem_of_getElem? (i := 162) rfl))) rfl
set_option maxRecDepth 100000 in
theorem kc_D_spreadLeastVertices : cw_D_spreadLeastVertices ∈ gl := gl_T (List.mem_append_right _ (List.mem_append_left _ (List.mem_of_getElem? (i := 183) rfl))) rfl
set_option maxRecDepth 100000 in
theorem kc_D_isValue : cw_D_isValue ∈ gl := gl_T (List.mem_append_left _ (List.mem_of_getElem? (i := 156) rfl)) rfl
set_option maxRecDepth 100000 in
theorem kc_D_requireRegister : cw_D_requireRegister ∈ gl := gl_T (List.mem_append_left _ (List.mem_of_getElem? (i := 61) rfl)) rfl
set_option maxRecDepth 100000 in
theorem kc_D_requireSemiring : cw_D_requireSemiring ∈ gl := gl_T (List.mem_append_left _ (List.mem_of_getElem? (i := 235) rfl)) rfl
set_option maxRecDepth 100000 in
theorem kc_D_requireOperands : cw_D_requireOperands ∈ gl := gl_T (List.mem_append_left _ (List.mem_of_getElem? (i := 232) rfl)) rfl
set_option maxRecDepth 100000 in
theorem kc_D_requireMask : cw_D_requireMask ∈ gl := gl_T (List.mem_append_left _ (List.mem_of_getElem? (i := 239) rfl)) rfl
set_option maxRecDepth 100000 in
theorem kc_D_requireHow : cw_D_requireHow ∈ gl := gl_T (List.mem_append_right _ (List.mem_append_left _ (List.mem_of_getElem? (i := 2) rfl))) rfl
set_option maxRecDepth 100000 in
theorem kc_D_requireSide : cw_D_requireSide ∈ gl := gl_T (List.mem_append_left _ (List.mem_of_getElem? (i := 133) rfl)) rfl
set_option maxRecDepth 100000 in
theorem kc_D_requirePlace : cw_D_requirePlace ∈ gl := gl_T (List.mem_append_left _ (List.mem_of_getElem? (i := 149) rfl)) rfl
set_option maxRecDepth 100000 in
theorem kc_D_requireValue : cw_D_requireValue ∈ gl := gl_T (List.mem_append_left _ (List.mem_of_getElem? (i := 153) rfl)) rfl
set_option maxRecDepth 100000 in
theorem kc_D_requireEntry : cw_D_requireEntry ∈ gl := gl_T (List.mem_append_left _ (List.mem_of_getElem? (i := 189) rfl)) rfl
set_option maxRecDepth 100000 in
theorem kc_D_requireFit : cw_D_requireFit ∈ gl := gl_T (List.mem_append_right _ (List.mem_append_left _ (List.mem_of_getElem? (i := 6) rfl))) rfl
set_option maxRecDepth 100000 in
theorem kc_D_requireSameShape : cw_D_requireSameShape ∈ gl := gl_T (List.mem_append_right _ (List.mem_append_left _ (List.mem_of_getElem? (i := 95) rfl))) rfl
set_option maxRecDepth 100000 in
theorem kc_D_requireGraph : cw_D_requireGraph ∈ gl := gl_T (List.mem_append_right _ (List.mem_append_left _ (List.mem_of_getElem? (i := 137) rfl))) rfl
set_option maxRecDepth 100000 in
theorem kc_D_requireVertex : cw_D_requireVertex ∈ gl := gl_T (List.mem_append_right _ (List.mem_append_left _ (List.mem_of_getElem? (i := 140) rfl))) rfl
set_option maxRecDepth 100000 in
theorem kc_D_requireLengths : cw_D_requireLengths ∈ gl := gl_T (List.mem_append_right _ (List.mem_append_left _ (List.mem_of_getElem? (i := 157) rfl))) rfl
set_option maxRecDepth 100000 in
theorem kc_D_requireNoCircleBelowZero : cw_D_requireNoCircleBelowZero ∈ gl := gl_T (List.mem_append_right _ (List.mem_append_left _ (List.mem_of_getElem? (i := 165) rfl))) rfl
set_option maxRecDepth 100000 in
theorem kc_R_init : cw_R_init ∈ gl := gl_T (List.mem_append_right _ (List.mem_append_left _ (List.mem_of_getElem? (i := 188) rfl))) rfl
set_option maxRecDepth 100000 in
theorem kc_R_thrown : cw_R_thrown ∈ gl := gl_T (List.mem_append_right _ (List.mem_append_left _ (List.mem_of_getElem? (i := 225) rfl))) rfl
set_option maxRecDepth 100000 in
theorem kc_R_isRegister : cw_R_isRegister ∈ gl := gl_T (List.mem_append_right _ (List.mem_append_left _ (List.mem_of_getElem? (i := 232) rfl))) rfl
set_option maxRecDepth 100000 in
theorem kc_R_isRing : cw_R_isRing ∈ gl := gl_T (List.mem_append_right _ (List.mem_append_right _ (List.mem_of_getElem? (i := 28) rfl))) rfl
set_option maxRecDepth 100000 in
theorem kc_R_isValue : cw_R_isValue ∈ gl := gl_T (List.mem_append_right _ (List.mem_append_right _ (List.mem_of_getElem? (i := 3) rfl))) rfl
set_option maxRecDepth 100000 in
theorem kc_R_isPlace : cw_R_isPlace ∈ gl := gl_T (List.mem_append_right _ (List.mem_append_right _ (List.mem_of_getElem? (i := 0) rfl))) rfl
set_option maxRecDepth 100000 in
theorem kc_R_shape : cw_R_shape ∈ gl := gl_T (List.mem_append_right _ (List.mem_append_left _ (List.mem_of_getElem? (i := 229) rfl))) rfl
set_option maxRecDepth 100000 in
theorem kc_R_put : cw_R_put ∈ gl := gl_T (List.mem_append_right _ (List.mem_append_left _ (List.mem_of_getElem? (i := 236) rfl))) rfl
set_option maxRecDepth 100000 in
theorem kc_R_drop : cw_R_drop ∈ gl := gl_T (List.mem_append_right _ (List.mem_append_right _ (List.mem_of_getElem? (i := 9) rfl))) rfl
set_option maxRecDepth 100000 in
theorem kc_R_at : cw_R_at ∈ gl := gl_T (List.mem_append_right _ (List.mem_append_right _ (List.mem_of_getElem? (i := 13) rfl))) rfl
set_option maxRecDepth 100000 in
theorem kc_R_entries : cw_R_entries ∈ gl := gl_T (List.mem_append_right _ (List.mem_append_right _ (List.mem_of_getElem? (i := 21) rfl))) rfl
set_option maxRecDepth 100000 in
theorem kc_R_size : cw_R_size ∈ gl := gl_T (List.mem_append_right _ (List.mem_append_right _ (List.mem_of_getElem? (i := 17) rfl))) rfl
set_option maxRecDepth 100000 in
theorem kc_R_sum : cw_R_sum ∈ gl := gl_T (List.mem_append_right _ (List.mem_append_right _ (List.mem_of_getElem? (i := 47) rfl))) rfl
set_option maxRecDepth 100000 in
theorem kc_R_size0 : cw_R_size0 ∈ gl := gl_T (List.mem_append_right _ (List.mem_append_right _ (List.mem_of_getElem? (i := 43) rfl))) rfl
set_option maxRecDepth 100000 in
theorem kc_R_product : cw_R_product ∈ gl := gl_T (List.mem_append_right _ (List.mem_append_right _ (List.mem_of_getElem? (i := 40) rfl))) rfl
set_option maxRecDepth 100000 in
theorem kc_R_begin : cw_R_begin ∈ gl := gl_T (List.mem_append_right _ (List.mem_append_right _ (List.mem_of_getElem? (i := 32) rfl))) rfl
set_option maxRecDepth 100000 in
theorem kc_R_make : cw_R_make ∈ gl := gl_T (List.mem_append_right _ (List.mem_append_right _ (List.mem_of_getElem? (i := 51) rfl))) rfl
set_option maxRecDepth 100000 in
theorem kc_R_finish : cw_R_finish ∈ gl := gl_T (List.mem_append_right _ (List.mem_append_right _ (List.mem_of_getElem? (i := 59) rfl))) rfl
set_option maxRecDepth 100000 in
theorem kc_R_cross : cw_R_cross ∈ gl := gl_T (List.mem_append_right _ (List.mem_append_right _ (List.mem_of_getElem? (i := 36) rfl))) rfl
set_option maxRecDepth 100000 in
theorem kc_R_join : cw_R_join ∈ gl := gl_T (List.mem_append_right _ (List.mem_append_right _ (List.mem_of_getElem? (i := 55) rfl))) rfl
set_option maxRecDepth 100000 in
theorem kc_R_multiply : cw_R_multiply ∈ gl := gl_T (List.mem_append_right _ (List.mem_append_right _ (List.mem_of_getElem? (i := 25) rfl))) rfl
set_option maxRecDepth 100000 in
theorem kc_R_pair : cw_R_pair ∈ gl := gl_T (List.mem_append_right _ (List.mem_append_right _ (List.mem_of_getElem? (i := 67) rfl))) rfl
set_option maxRecDepth 100000 in
theorem kc_R_add : cw_R_add ∈ gl := gl_T (List.mem_append_right _ (List.mem_append_right _ (List.mem_of_getElem? (i := 63) rfl))) rfl
set_option maxRecDepth 100000 in
theorem kc_R_each : cw_R_each ∈ gl := gl_T (List.mem_append_right _ (List.mem_append_right _ (List.mem_of_getElem? (i := 71) rfl))) rfl
set_option maxRecDepth 100000 in
theorem kc_R_transpose : cw_R_transpose ∈ gl := gl_T (List.mem_append_right _ (List.mem_append_right _ (List.mem_of_getElem? (i := 75) rfl))) rfl
set_option maxRecDepth 100000 in
theorem kc_R_chosen : cw_R_chosen ∈ gl := gl_T (List.mem_append_right _ (List.mem_append_right _ (List.mem_of_getElem? (i := 82) rfl))) rfl
set_option maxRecDepth 100000 in
theorem kc_R_select : cw_R_select ∈ gl := gl_T (List.mem_append_right _ (List.mem_append_right _ (List.mem_of_getElem? (i := 79) rfl))) rfl
set_option maxRecDepth 100000 in
theorem kc_R_reduce : cw_R_reduce ∈ gl := gl_T (List.mem_append_right _ (List.mem_append_right _ (List.mem_of_getElem? (i := 86) rfl))) rfl
set_option maxRecDepth 100000 in
theorem kc_R_isSquare : cw_R_isSquare ∈ gl := gl_T (List.mem_append_right _ (List.mem_append_right _ (List.mem_of_getElem? (i := 94) rfl))) rfl
set_option maxRecDepth 100000 in
theorem kc_R_levels : cw_R_levels ∈ gl := gl_T (List.mem_append_right _ (List.mem_append_right _ (List.mem_of_getElem? (i := 90) rfl))) rfl
set_option maxRecDepth 100000 in
theorem kc_R_relax : cw_R_relax ∈ gl := gl_T (List.mem_append_right _ (List.mem_append_right _ (List.mem_of_getElem? (i := 104) rfl))) rfl
set_option maxRecDepth 100000 in
theorem kc_R_paths : cw_R_paths ∈ gl := gl_T (List.mem_append_right _ (List.mem_append_right _ (List.mem_of_getElem? (i := 98) rfl))) rfl
set_option maxRecDepth 100000 in
theorem kc_R_triangles : cw_R_triangles ∈ gl := gl_T (List.mem_append_right _ (List.mem_append_right _ (List.mem_of_getElem? (i := 108) rfl))) rfl
set_option maxRecDepth 100000 in
theorem kc_R_components : cw_R_components ∈ gl := gl_T (List.mem_append_right _ (List.mem_append_right _ (List.mem_of_getElem? (i := 112) rfl))) rfl
set_option maxRecDepth 100000 in
theorem kc_M_init : cw_M_init ∈ gl := gl_T (List.mem_append_left _ (List.mem_of_getElem? (i := 25) rfl)) rfl
set_option maxRecDepth 100000 in
theorem kc_M_clear : cw_M_clear ∈ gl := gl_T (List.mem_append_left _ (List.mem_of_getElem? (i := 138) rfl)) rfl
set_option maxRecDepth 100000 in
theorem kc_M_isShaped : cw_M_isShaped ∈ gl := gl_T (List.mem_append_right _ (List.mem_append_left _ (List.mem_of_getElem? (i := 26) rfl))) rfl
set_option maxRecDepth 100000 in
theorem kc_M_has : cw_M_has ∈ gl := gl_T (List.mem_append_left _ (List.mem_of_getElem? (i := 174) rfl)) rfl
set_option maxRecDepth 100000 in
theorem kc_M_value : cw_M_value ∈ gl := gl_T (List.mem_append_left _ (List.mem_of_getElem? (i := 209) rfl)) rfl
set_option maxRecDepth 100000 in
theorem kc_M_enter : cw_M_enter ∈ gl := gl_T (List.mem_append_left _ (List.mem_of_getElem? (i := 163) rfl)) rfl
set_option maxRecDepth 100000 in
theorem kc_M_remove : cw_M_remove ∈ gl := gl_T (List.mem_append_left _ (List.mem_of_getElem? (i := 178) rfl)) rfl
set_option maxRecDepth 100000 in
theorem kc_M_count : cw_M_count ∈ gl := gl_T (List.mem_append_left _ (List.mem_of_getElem? (i := 220) rfl)) rfl
set_option maxRecDepth 100000 in
theorem kc_L_shape : cw_L_shape ∈ gl := gl_T (List.mem_append_left _ (List.mem_of_getElem? (i := 53) rfl)) rfl
set_option maxRecDepth 100000 in
theorem kc_L_put : cw_L_put ∈ gl := gl_T (List.mem_append_left _ (List.mem_of_getElem? (i := 141) rfl)) rfl
set_option maxRecDepth 100000 in
theorem kc_L_drop : cw_L_drop ∈ gl := gl_T (List.mem_append_left _ (List.mem_of_getElem? (i := 166) rfl)) rfl
set_option maxRecDepth 100000 in
theorem kc_L_at : cw_L_at ∈ gl := gl_T (List.mem_append_left _ (List.mem_of_getElem? (i := 181) rfl)) rfl
set_option maxRecDepth 100000 in
theorem kc_L_size : cw_L_size ∈ gl := gl_T (List.mem_append_left _ (List.mem_of_getElem? (i := 212) rfl)) rfl
set_option maxRecDepth 100000 in
theorem kc_L_multiply : cw_L_multiply ∈ gl := gl_T (List.mem_append_left _ (List.mem_of_getElem? (i := 223) rfl)) rfl
set_option maxRecDepth 100000 in
theorem kc_L_add : cw_L_add ∈ gl := gl_T (List.mem_append_right _ (List.mem_append_left _ (List.mem_of_getElem? (i := 87) rfl))) rfl
set_option maxRecDepth 100000 in
theorem kc_L_each : cw_L_each ∈ gl := gl_T (List.mem_append_right _ (List.mem_append_left _ (List.mem_of_getElem? (i := 98) rfl))) rfl
set_option maxRecDepth 100000 in
theorem kc_L_transpose : cw_L_transpose ∈ gl := gl_T (List.mem_append_right _ (List.mem_append_left _ (List.mem_of_getElem? (i := 105) rfl))) rfl
set_option maxRecDepth 100000 in
theorem kc_L_select : cw_L_select ∈ gl := gl_T (List.mem_append_right _ (List.mem_append_left _ (List.mem_of_getElem? (i := 112) rfl))) rfl
set_option maxRecDepth 100000 in
theorem kc_L_reduce : cw_L_reduce ∈ gl := gl_T (List.mem_append_right _ (List.mem_append_left _ (List.mem_of_getElem? (i := 122) rfl))) rfl
set_option maxRecDepth 100000 in
theorem kc_L_levels : cw_L_levels ∈ gl := gl_T (List.mem_append_right _ (List.mem_append_left _ (List.mem_of_getElem? (i := 129) rfl))) rfl
set_option maxRecDepth 100000 in
theorem kc_L_paths : cw_L_paths ∈ gl := gl_T (List.mem_append_right _ (List.mem_append_left _ (List.mem_of_getElem? (i := 150) rfl))) rfl
set_option maxRecDepth 100000 in
theorem kc_L_triangles : cw_L_triangles ∈ gl := gl_T (List.mem_append_right _ (List.mem_append_left _ (List.mem_of_getElem? (i := 169) rfl))) rfl
set_option maxRecDepth 100000 in
theorem kc_L_components : cw_L_components ∈ gl := gl_T (List.mem_append_right _ (List.mem_append_left _ (List.mem_of_getElem? (i := 176) rfl))) rfl
theorem ki_L : Cond.initialized R_L ∈ gl := gl_T (List.mem_append_left _ (List.mem_of_getElem? (i := 0) (by decide +kernel))) rfl
theorem ki_D : Cond.initialized R_D ∈ gl := gl_T (List.mem_append_left _ (List.mem_of_getElem? (i := 1) (by decide +kernel))) rfl
theorem ki_M : Cond.initialized R_M ∈ gl := gl_T (List.mem_append_left _ (List.mem_of_getElem? (i := 2) (by decide +kernel))) rfl
theorem ki_R : Cond.initialized R_R ∈ gl := gl_T (List.mem_append_left _ (List.mem_of_getElem? (i := 3) (by decide +kernel))) rfl
theorem ki_Throwable : Cond.initialized "java/lang/Throwable" ∈ gl := gl_T (List.mem_append_left _ (List.mem_of_getElem? (i := 4) (by decide +kernel))) rfl
theorem ki_Exception : Cond.initialized "java/lang/Exception" ∈ gl := gl_T (List.mem_append_left _ (List.mem_of_getElem? (i := 5) (by decide +kernel))) rfl
theorem ki_RuntimeException : Cond.initialized "java/lang/RuntimeException" ∈ gl := gl_T (List.mem_append_left _ (List.mem_of_getElem? (i := 6) (by decide +kernel))) rfl
theorem ki_IllegalArgumentException : Cond.initialized "java/lang/IllegalArgumentException" ∈ gl := gl_T (List.mem_append_left _ (List.mem_of_getElem? (i := 7) (by decide +kernel))) rfl
theorem ki_NoSuchElementException : Cond.initialized "java/util/NoSuchElementException" ∈ gl := gl_T (List.mem_append_left _ (List.mem_of_getElem? (i := 8) (by decide +kernel))) rfl
theorem ki_IllegalStateException : Cond.initialized "java/lang/IllegalStateException" ∈ gl := gl_T (List.mem_append_left _ (List.mem_of_getElem? (i := 9) (by decide +kernel))) rfl
theorem ki_Math : Cond.initialized "java/lang/Math" ∈ gl := gl_T (List.mem_append_left _ (List.mem_of_getElem? (i := 10) (by decide +kernel))) rfl
theorem ki_UnsupportedOperationException : Cond.initialized "java/lang/UnsupportedOperationException" ∈ gl := gl_T (List.mem_append_left _ (List.mem_of_getElem? (i := 11) (by decide +kernel))) rfl
theorem kk_L_8 : Cond.classLink R_L 8 R_D ∈ gl := gl_T (List.mem_append_left _ (List.mem_of_getElem? (i := 12) (by decide +kernel))) rfl
theorem kn_D : Cond.instantiable R_D 2 ∈ gl := gl_T (List.mem_append_left _ (List.mem_of_getElem? (i := 13) (by decide +kernel))) rfl
theorem kl_L_73 : Cond.methodLink R_L 73 y_D_init ∈ gl := gl_T (List.mem_append_left _ (List.mem_of_getElem? (i := 14) (by decide +kernel))) rfl
theorem kin_D_init : Cond.instanceMethod y_D_init ∈ gl := gl_T (List.mem_append_left _ (List.mem_of_getElem? (i := 15) (by decide +kernel))) rfl
theorem kl_D_1 : Cond.methodLink R_D 1 ⟨"java/lang/Object", "<init>", "()V"⟩ ∈ gl := gl_T (List.mem_append_left _ (List.mem_of_getElem? (i := 17) (by decide +kernel))) rfl
theorem kk_D_9 : Cond.classLink R_D 9 R_M ∈ gl := gl_T (List.mem_append_left _ (List.mem_of_getElem? (i := 20) (by decide +kernel))) rfl
theorem kn_M : Cond.instantiable R_M 4 ∈ gl := gl_T (List.mem_append_left _ (List.mem_of_getElem? (i := 22) (by decide +kernel))) rfl
theorem kl_D_15 : Cond.methodLink R_D 15 y_M_init ∈ gl := gl_T (List.mem_append_left _ (List.mem_of_getElem? (i := 23) (by decide +kernel))) rfl
theorem kin_M_init : Cond.instanceMethod y_M_init ∈ gl := gl_T (List.mem_append_left _ (List.mem_of_getElem? (i := 24) (by decide +kernel))) rfl
theorem kl_M_3 : Cond.methodLink R_M 3 ⟨"java/lang/Object", "<init>", "()V"⟩ ∈ gl := gl_T (List.mem_append_left _ (List.mem_of_getElem? (i := 26) (by decide +kernel))) rfl
theorem kf_M_9 : Cond.fieldLink R_M 9 R_M "rows" "I" ∈ gl := gl_T (List.mem_append_left _ (List.mem_of_getElem? (i := 27) (by decide +kernel))) rfl
theorem kf_D_58 : Cond.fieldLink R_D 58 R_M "rows" "I" ∈ gl := gl_T (List.mem_append_left _ (List.mem_of_getElem? (i := 28) (by decide +kernel))) rfl
theorem kf_M_15 : Cond.fieldLink R_M 15 R_M "columns" "I" ∈ gl := gl_T (List.mem_append_left _ (List.mem_of_getElem? (i := 29) (by decide +kernel))) rfl
theorem kf_D_62 : Cond.fieldLink R_D 62 R_M "columns" "I" ∈ gl := gl_T (List.mem_append_left _ (List.mem_of_getElem? (i := 30) (by decide +kernel))) rfl
theorem kf_M_18 : Cond.fieldLink R_M 18 R_M "values" "[J" ∈ gl := gl_T (List.mem_append_left _ (List.mem_of_getElem? (i := 31) (by decide +kernel))) rfl
theorem kf_M_22 : Cond.fieldLink R_M 22 R_M "filled" "[Z" ∈ gl := gl_T (List.mem_append_left _ (List.mem_of_getElem? (i := 32) (by decide +kernel))) rfl
theorem kf_D_11 : Cond.fieldLink R_D 11 R_D "registers" "[LSemiringDesk$Matrix;" ∈ gl := gl_T (List.mem_append_left _ (List.mem_of_getElem? (i := 44) (by decide +kernel))) rfl
theorem kf_D_16 : Cond.fieldLink R_D 16 R_D "spare" "LSemiringDesk$Matrix;" ∈ gl := gl_T (List.mem_append_left _ (List.mem_of_getElem? (i := 45) (by decide +kernel))) rfl
theorem kl_L_77 : Cond.methodLink R_L 77 y_L_shape ∈ gl := gl_T (List.mem_append_left _ (List.mem_of_getElem? (i := 51) (by decide +kernel))) rfl
theorem kst_L_shape : Cond.static y_L_shape ∈ gl := gl_T (List.mem_append_left _ (List.mem_of_getElem? (i := 52) (by decide +kernel))) rfl
theorem kk_L_13 : Cond.classLink R_L 13 "java/lang/IllegalArgumentException" ∈ gl := gl_T (List.mem_append_left _ (List.mem_of_getElem? (i := 54) (by decide +kernel))) rfl
theorem kl_L_7 : Cond.methodLink R_L 7 y_D_shape ∈ gl := gl_T (List.mem_append_left _ (List.mem_of_getElem? (i := 55) (by decide +kernel))) rfl
theorem kin_D_shape : Cond.instanceMethod y_D_shape ∈ gl := gl_T (List.mem_append_left _ (List.mem_of_getElem? (i := 56) (by decide +kernel))) rfl
theorem kse_D_shape : Cond.selects R_D y_D_shape y_D_shape ∈ gl := gl_T (List.mem_append_left _ (List.mem_of_getElem? (i := 57) (by decide +kernel))) rfl
theorem kl_D_20 : Cond.methodLink R_D 20 y_D_requireRegister ∈ gl := gl_T (List.mem_append_left _ (List.mem_of_getElem? (i := 59) (by decide +kernel))) rfl
theorem kst_D_requireRegister : Cond.static y_D_requireRegister ∈ gl := gl_T (List.mem_append_left _ (List.mem_of_getElem? (i := 60) (by decide +kernel))) rfl
theorem kk_D_189 : Cond.classLink R_D 189 "java/lang/IllegalArgumentException" ∈ gl := gl_T (List.mem_append_left _ (List.mem_of_getElem? (i := 62) (by decide +kernel))) rfl
theorem kn_IllegalArgumentException : Cond.instantiable "java/lang/IllegalArgumentException" 6 ∈ gl := gl_T (List.mem_append_left _ (List.mem_of_getElem? (i := 63) (by decide +kernel))) rfl
theorem kca_IllegalArgumentException : Cond.castable "java/lang/IllegalArgumentException" "java/lang/IllegalArgumentException" ∈ gl := gl_T (List.mem_append_left _ (List.mem_of_getElem? (i := 64) (by decide +kernel))) rfl
theorem kn_Throwable : Cond.instantiable "java/lang/Throwable" 6 ∈ gl := gl_T (List.mem_append_left _ (List.mem_of_getElem? (i := 102) (by decide +kernel))) rfl
theorem kr_D_191 : Cond.stringRef R_D 191 "no such register" ∈ gl := gl_T (List.mem_append_left _ (List.mem_of_getElem? (i := 104) (by decide +kernel))) rfl
theorem kl_D_193 : Cond.methodLink R_D 193 ⟨"java/lang/IllegalArgumentException", "<init>", "(Ljava/lang/String;)V"⟩ ∈ gl := gl_T (List.mem_append_left _ (List.mem_of_getElem? (i := 105) (by decide +kernel))) rfl
theorem kl_D_24 : Cond.methodLink R_D 24 y_D_requireSide ∈ gl := gl_T (List.mem_append_left _ (List.mem_of_getElem? (i := 131) (by decide +kernel))) rfl
theorem kst_D_requireSide : Cond.static y_D_requireSide ∈ gl := gl_T (List.mem_append_left _ (List.mem_of_getElem? (i := 132) (by decide +kernel))) rfl
theorem kr_D_198 : Cond.stringRef R_D 198 "rows and columns are 1 to 8" ∈ gl := gl_T (List.mem_append_left _ (List.mem_of_getElem? (i := 134) (by decide +kernel))) rfl
theorem kl_D_27 : Cond.methodLink R_D 27 y_M_clear ∈ gl := gl_T (List.mem_append_left _ (List.mem_of_getElem? (i := 135) (by decide +kernel))) rfl
theorem kin_M_clear : Cond.instanceMethod y_M_clear ∈ gl := gl_T (List.mem_append_left _ (List.mem_of_getElem? (i := 136) (by decide +kernel))) rfl
theorem kse_M_clear : Cond.selects R_M y_M_clear y_M_clear ∈ gl := gl_T (List.mem_append_left _ (List.mem_of_getElem? (i := 137) (by decide +kernel))) rfl
theorem kl_L_89 : Cond.methodLink R_L 89 y_L_put ∈ gl := gl_T (List.mem_append_left _ (List.mem_of_getElem? (i := 139) (by decide +kernel))) rfl
theorem kst_L_put : Cond.static y_L_put ∈ gl := gl_T (List.mem_append_left _ (List.mem_of_getElem? (i := 140) (by decide +kernel))) rfl
theorem kl_L_15 : Cond.methodLink R_L 15 y_D_put ∈ gl := gl_T (List.mem_append_left _ (List.mem_of_getElem? (i := 142) (by decide +kernel))) rfl
theorem kin_D_put : Cond.instanceMethod y_D_put ∈ gl := gl_T (List.mem_append_left _ (List.mem_of_getElem? (i := 143) (by decide +kernel))) rfl
theorem kse_D_put : Cond.selects R_D y_D_put y_D_put ∈ gl := gl_T (List.mem_append_left _ (List.mem_of_getElem? (i := 144) (by decide +kernel))) rfl
theorem kl_D_31 : Cond.methodLink R_D 31 y_D_requirePlace ∈ gl := gl_T (List.mem_append_left _ (List.mem_of_getElem? (i := 146) (by decide +kernel))) rfl
theorem kin_D_requirePlace : Cond.instanceMethod y_D_requirePlace ∈ gl := gl_T (List.mem_append_left _ (List.mem_of_getElem? (i := 148) (by decide +kernel))) rfl
theorem kr_D_200 : Cond.stringRef R_D 200 "no such place" ∈ gl := gl_T (List.mem_append_left _ (List.mem_of_getElem? (i := 150) (by decide +kernel))) rfl
theorem kl_D_35 : Cond.methodLink R_D 35 y_D_requireValue ∈ gl := gl_T (List.mem_append_left _ (List.mem_of_getElem? (i := 151) (by decide +kernel))) rfl
theorem kst_D_requireValue : Cond.static y_D_requireValue ∈ gl := gl_T (List.mem_append_left _ (List.mem_of_getElem? (i := 152) (by decide +kernel))) rfl
theorem kl_D_164 : Cond.methodLink R_D 164 y_D_isValue ∈ gl := gl_T (List.mem_append_left _ (List.mem_of_getElem? (i := 154) (by decide +kernel))) rfl
theorem kst_D_isValue : Cond.static y_D_isValue ∈ gl := gl_T (List.mem_append_left _ (List.mem_of_getElem? (i := 155) (by decide +kernel))) rfl
theorem kq_D_187 : Cond.constantLong R_D 187 (-1000000000000) ∈ gl := gl_T (List.mem_append_left _ (List.mem_of_getElem? (i := 157) (by decide +kernel))) rfl
theorem kq_D_179 : Cond.constantLong R_D 179 1000000000000 ∈ gl := gl_T (List.mem_append_left _ (List.mem_of_getElem? (i := 158) (by decide +kernel))) rfl
theorem kr_D_202 : Cond.stringRef R_D 202 "the value is out of range" ∈ gl := gl_T (List.mem_append_left _ (List.mem_of_getElem? (i := 159) (by decide +kernel))) rfl
theorem kl_D_39 : Cond.methodLink R_D 39 y_M_enter ∈ gl := gl_T (List.mem_append_left _ (List.mem_of_getElem? (i := 160) (by decide +kernel))) rfl
theorem kin_M_enter : Cond.instanceMethod y_M_enter ∈ gl := gl_T (List.mem_append_left _ (List.mem_of_getElem? (i := 161) (by decide +kernel))) rfl
theorem kse_M_enter : Cond.selects R_M y_M_enter y_M_enter ∈ gl := gl_T (List.mem_append_left _ (List.mem_of_getElem? (i := 162) (by decide +kernel))) rfl
theorem kl_L_93 : Cond.methodLink R_L 93 y_L_drop ∈ gl := gl_T (List.mem_append_left _ (List.mem_of_getElem? (i := 164) (by decide +kernel))) rfl
theorem kst_L_drop : Cond.static y_L_drop ∈ gl := gl_T (List.mem_append_left _ (List.mem_of_getElem? (i := 165) (by decide +kernel))) rfl
theorem kl_L_19 : Cond.methodLink R_L 19 y_D_drop ∈ gl := gl_T (List.mem_append_left _ (List.mem_of_getElem? (i := 167) (by decide +kernel))) rfl
theorem kin_D_drop : Cond.instanceMethod y_D_drop ∈ gl := gl_T (List.mem_append_left _ (List.mem_of_getElem? (i := 168) (by decide +kernel))) rfl
theorem kse_D_drop : Cond.selects R_D y_D_drop y_D_drop ∈ gl := gl_T (List.mem_append_left _ (List.mem_of_getElem? (i := 169) (by decide +kernel))) rfl
theorem kl_D_43 : Cond.methodLink R_D 43 y_M_has ∈ gl := gl_T (List.mem_append_left _ (List.mem_of_getElem? (i := 171) (by decide +kernel))) rfl
theorem kin_M_has : Cond.instanceMethod y_M_has ∈ gl := gl_T (List.mem_append_left _ (List.mem_of_getElem? (i := 172) (by decide +kernel))) rfl
theorem kse_M_has : Cond.selects R_M y_M_has y_M_has ∈ gl := gl_T (List.mem_append_left _ (List.mem_of_getElem? (i := 173) (by decide +kernel))) rfl
theorem kl_D_47 : Cond.methodLink R_D 47 y_M_remove ∈ gl := gl_T (List.mem_append_left _ (List.mem_of_getElem? (i := 175) (by decide +kernel))) rfl
theorem kin_M_remove : Cond.instanceMethod y_M_remove ∈ gl := gl_T (List.mem_append_left _ (List.mem_of_getElem? (i := 176) (by decide +kernel))) rfl
theorem kse_M_remove : Cond.selects R_M y_M_remove y_M_remove ∈ gl := gl_T (List.mem_append_left _ (List.mem_of_getElem? (i := 177) (by decide +kernel))) rfl
theorem kl_L_97 : Cond.methodLink R_L 97 y_L_at ∈ gl := gl_T (List.mem_append_left _ (List.mem_of_getElem? (i := 179) (by decide +kernel))) rfl
theorem kst_L_at : Cond.static y_L_at ∈ gl := gl_T (List.mem_append_left _ (List.mem_of_getElem? (i := 180) (by decide +kernel))) rfl
theorem kk_L_27 : Cond.classLink R_L 27 "java/util/NoSuchElementException" ∈ gl := gl_T (List.mem_append_left _ (List.mem_of_getElem? (i := 182) (by decide +kernel))) rfl
theorem kl_L_23 : Cond.methodLink R_L 23 y_D_at ∈ gl := gl_T (List.mem_append_left _ (List.mem_of_getElem? (i := 183) (by decide +kernel))) rfl
theorem kin_D_at : Cond.instanceMethod y_D_at ∈ gl := gl_T (List.mem_append_left _ (List.mem_of_getElem? (i := 184) (by decide +kernel))) rfl
theorem kse_D_at : Cond.selects R_D y_D_at y_D_at ∈ gl := gl_T (List.mem_append_left _ (List.mem_of_getElem? (i := 185) (by decide +kernel))) rfl
theorem kl_D_50 : Cond.methodLink R_D 50 y_D_requireEntry ∈ gl := gl_T (List.mem_append_left _ (List.mem_of_getElem? (i := 187) (by decide +kernel))) rfl
theorem kst_D_requireEntry : Cond.static y_D_requireEntry ∈ gl := gl_T (List.mem_append_left _ (List.mem_of_getElem? (i := 188) (by decide +kernel))) rfl
theorem kk_D_204 : Cond.classLink R_D 204 "java/util/NoSuchElementException" ∈ gl := gl_T (List.mem_append_left _ (List.mem_of_getElem? (i := 190) (by decide +kernel))) rfl
theorem kn_NoSuchElementException : Cond.instantiable "java/util/NoSuchElementException" 6 ∈ gl := gl_T (List.mem_append_left _ (List.mem_of_getElem? (i := 191) (by decide +kernel))) rfl
theorem kca_NoSuchElementException : Cond.castable "java/util/NoSuchElementException" "java/util/NoSuchElementException" ∈ gl := gl_T (List.mem_append_left _ (List.mem_of_getElem? (i := 192) (by decide +kernel))) rfl
theorem kr_D_206 : Cond.stringRef R_D 206 "no entry" ∈ gl := gl_T (List.mem_append_left _ (List.mem_of_getElem? (i := 199) (by decide +kernel))) rfl
theorem kl_D_208 : Cond.methodLink R_D 208 ⟨"java/util/NoSuchElementException", "<init>", "(Ljava/lang/String;)V"⟩ ∈ gl := gl_T (List.mem_append_left _ (List.mem_of_getElem? (i := 200) (by decide +kernel))) rfl
theorem kl_D_54 : Cond.methodLink R_D 54 y_M_value ∈ gl := gl_T (List.mem_append_left _ (List.mem_of_getElem? (i := 206) (by decide +kernel))) rfl
theorem kin_M_value : Cond.instanceMethod y_M_value ∈ gl := gl_T (List.mem_append_left _ (List.mem_of_getElem? (i := 207) (by decide +kernel))) rfl
theorem kse_M_value : Cond.selects R_M y_M_value y_M_value ∈ gl := gl_T (List.mem_append_left _ (List.mem_of_getElem? (i := 208) (by decide +kernel))) rfl
theorem kl_L_100 : Cond.methodLink R_L 100 y_L_size ∈ gl := gl_T (List.mem_append_left _ (List.mem_of_getElem? (i := 210) (by decide +kernel))) rfl
theorem kst_L_size : Cond.static y_L_size ∈ gl := gl_T (List.mem_append_left _ (List.mem_of_getElem? (i := 211) (by decide +kernel))) rfl
theorem kl_L_29 : Cond.methodLink R_L 29 y_D_size ∈ gl := gl_T (List.mem_append_left _ (List.mem_of_getElem? (i := 213) (by decide +kernel))) rfl
theorem kin_D_size : Cond.instanceMethod y_D_size ∈ gl := gl_T (List.mem_append_left _ (List.mem_of_getElem? (i := 214) (by decide +kernel))) rfl
theorem kse_D_size : Cond.selects R_D y_D_size y_D_size ∈ gl := gl_T (List.mem_append_left _ (List.mem_of_getElem? (i := 215) (by decide +kernel))) rfl
theorem kl_D_65 : Cond.methodLink R_D 65 y_M_count ∈ gl := gl_T (List.mem_append_left _ (List.mem_of_getElem? (i := 217) (by decide +kernel))) rfl
theorem kin_M_count : Cond.instanceMethod y_M_count ∈ gl := gl_T (List.mem_append_left _ (List.mem_of_getElem? (i := 218) (by decide +kernel))) rfl
theorem kse_M_count : Cond.selects R_M y_M_count y_M_count ∈ gl := gl_T (List.mem_append_left _ (List.mem_of_getElem? (i := 219) (by decide +kernel))) rfl
theorem kl_L_104 : Cond.methodLink R_L 104 y_L_multiply ∈ gl := gl_T (List.mem_append_left _ (List.mem_of_getElem? (i := 221) (by decide +kernel))) rfl
theorem kst_L_multiply : Cond.static y_L_multiply ∈ gl := gl_T (List.mem_append_left _ (List.mem_of_getElem? (i := 222) (by decide +kernel))) rfl
theorem kk_L_37 : Cond.classLink R_L 37 "java/lang/IllegalStateException" ∈ gl := gl_T (List.mem_append_left _ (List.mem_of_getElem? (i := 224) (by decide +kernel))) rfl
theorem kk_L_39 : Cond.classLink R_L 39 "java/lang/UnsupportedOperationException" ∈ gl := gl_T (List.mem_append_left _ (List.mem_of_getElem? (i := 225) (by decide +kernel))) rfl
theorem kl_L_33 : Cond.methodLink R_L 33 y_D_multiply ∈ gl := gl_T (List.mem_append_left _ (List.mem_of_getElem? (i := 226) (by decide +kernel))) rfl
theorem kin_D_multiply : Cond.instanceMethod y_D_multiply ∈ gl := gl_T (List.mem_append_left _ (List.mem_of_getElem? (i := 227) (by decide +kernel))) rfl
theorem kse_D_multiply : Cond.selects R_D y_D_multiply y_D_multiply ∈ gl := gl_T (List.mem_append_left _ (List.mem_of_getElem? (i := 228) (by decide +kernel))) rfl
theorem kl_D_69 : Cond.methodLink R_D 69 y_D_requireOperands ∈ gl := gl_T (List.mem_append_left _ (List.mem_of_getElem? (i := 230) (by decide +kernel))) rfl
theorem kst_D_requireOperands : Cond.static y_D_requireOperands ∈ gl := gl_T (List.mem_append_left _ (List.mem_of_getElem? (i := 231) (by decide +kernel))) rfl
theorem kl_D_116 : Cond.methodLink R_D 116 y_D_requireSemiring ∈ gl := gl_T (List.mem_append_left _ (List.mem_of_getElem? (i := 233) (by decide +kernel))) rfl
theorem kst_D_requireSemiring : Cond.static y_D_requireSemiring ∈ gl := gl_T (List.mem_append_left _ (List.mem_of_getElem? (i := 234) (by decide +kernel))) rfl
theorem kr_D_194 : Cond.stringRef R_D 194 "no such semiring" ∈ gl := gl_T (List.mem_append_left _ (List.mem_of_getElem? (i := 236) (by decide +kernel))) rfl
theorem kl_D_73 : Cond.methodLink R_D 73 y_D_requireMask ∈ gl := gl_T (List.mem_append_left _ (List.mem_of_getElem? (i := 237) (by decide +kernel))) rfl
theorem kst_D_requireMask : Cond.static y_D_requireMask ∈ gl := gl_T (List.mem_append_left _ (List.mem_of_getElem? (i := 238) (by decide +kernel))) rfl
theorem kl_D_76 : Cond.methodLink R_D 76 y_D_requireHow ∈ gl := gl_T (List.mem_append_right _ (List.mem_append_left _ (List.mem_of_getElem? (i := 0) (by decide +kernel)))) rfl
theorem kst_D_requireHow : Cond.static y_D_requireHow ∈ gl := gl_T (List.mem_append_right _ (List.mem_append_left _ (List.mem_of_getElem? (i := 1) (by decide +kernel)))) rfl
theorem kr_D_196 : Cond.stringRef R_D 196 "no such how" ∈ gl := gl_T (List.mem_append_right _ (List.mem_append_left _ (List.mem_of_getElem? (i := 3) (by decide +kernel)))) rfl
theorem kl_D_79 : Cond.methodLink R_D 79 y_D_requireFit ∈ gl := gl_T (List.mem_append_right _ (List.mem_append_left _ (List.mem_of_getElem? (i := 4) (by decide +kernel)))) rfl
theorem kst_D_requireFit : Cond.static y_D_requireFit ∈ gl := gl_T (List.mem_append_right _ (List.mem_append_left _ (List.mem_of_getElem? (i := 5) (by decide +kernel)))) rfl
theorem kk_D_209 : Cond.classLink R_D 209 "java/lang/IllegalStateException" ∈ gl := gl_T (List.mem_append_right _ (List.mem_append_left _ (List.mem_of_getElem? (i := 7) (by decide +kernel)))) rfl
theorem kn_IllegalStateException : Cond.instantiable "java/lang/IllegalStateException" 6 ∈ gl := gl_T (List.mem_append_right _ (List.mem_append_left _ (List.mem_of_getElem? (i := 8) (by decide +kernel)))) rfl
theorem kca_IllegalStateException : Cond.castable "java/lang/IllegalStateException" "java/lang/IllegalStateException" ∈ gl := gl_T (List.mem_append_right _ (List.mem_append_left _ (List.mem_of_getElem? (i := 9) (by decide +kernel)))) rfl
theorem kr_D_211 : Cond.stringRef R_D 211 "rows and columns do not fit" ∈ gl := gl_T (List.mem_append_right _ (List.mem_append_left _ (List.mem_of_getElem? (i := 16) (by decide +kernel)))) rfl
theorem kl_D_213 : Cond.methodLink R_D 213 ⟨"java/lang/IllegalStateException", "<init>", "(Ljava/lang/String;)V"⟩ ∈ gl := gl_T (List.mem_append_right _ (List.mem_append_left _ (List.mem_of_getElem? (i := 17) (by decide +kernel)))) rfl
theorem kl_D_82 : Cond.methodLink R_D 82 y_M_isShaped ∈ gl := gl_T (List.mem_append_right _ (List.mem_append_left _ (List.mem_of_getElem? (i := 23) (by decide +kernel)))) rfl
theorem kin_M_isShaped : Cond.instanceMethod y_M_isShaped ∈ gl := gl_T (List.mem_append_right _ (List.mem_append_left _ (List.mem_of_getElem? (i := 24) (by decide +kernel)))) rfl
theorem kse_M_isShaped : Cond.selects R_M y_M_isShaped y_M_isShaped ∈ gl := gl_T (List.mem_append_right _ (List.mem_append_left _ (List.mem_of_getElem? (i := 25) (by decide +kernel)))) rfl
theorem kl_D_85 : Cond.methodLink R_D 85 y_D_blank ∈ gl := gl_T (List.mem_append_right _ (List.mem_append_left _ (List.mem_of_getElem? (i := 27) (by decide +kernel)))) rfl
theorem kin_D_blank : Cond.instanceMethod y_D_blank ∈ gl := gl_T (List.mem_append_right _ (List.mem_append_left _ (List.mem_of_getElem? (i := 29) (by decide +kernel)))) rfl
theorem kl_D_89 : Cond.methodLink R_D 89 y_D_gatherProducts ∈ gl := gl_T (List.mem_append_right _ (List.mem_append_left _ (List.mem_of_getElem? (i := 31) (by decide +kernel)))) rfl
theorem kst_D_gatherProducts : Cond.static y_D_gatherProducts ∈ gl := gl_T (List.mem_append_right _ (List.mem_append_left _ (List.mem_of_getElem? (i := 32) (by decide +kernel)))) rfl
theorem kl_D_108 : Cond.methodLink R_D 108 y_D_productOver ∈ gl := gl_T (List.mem_append_right _ (List.mem_append_left _ (List.mem_of_getElem? (i := 34) (by decide +kernel)))) rfl
theorem kst_D_productOver : Cond.static y_D_productOver ∈ gl := gl_T (List.mem_append_right _ (List.mem_append_left _ (List.mem_of_getElem? (i := 35) (by decide +kernel)))) rfl
theorem kl_D_161 : Cond.methodLink R_D 161 y_D_times ∈ gl := gl_T (List.mem_append_right _ (List.mem_append_left _ (List.mem_of_getElem? (i := 37) (by decide +kernel)))) rfl
theorem kst_D_times : Cond.static y_D_times ∈ gl := gl_T (List.mem_append_right _ (List.mem_append_left _ (List.mem_of_getElem? (i := 38) (by decide +kernel)))) rfl
theorem kl_D_175 : Cond.methodLink R_D 175 ⟨"java/lang/Math", "abs", "(J)J"⟩ ∈ gl := gl_T (List.mem_append_right _ (List.mem_append_left _ (List.mem_of_getElem? (i := 40) (by decide +kernel)))) rfl
theorem kst_java_lang_Math_abs : Cond.static ⟨"java/lang/Math", "abs", "(J)J"⟩ ∈ gl := gl_T (List.mem_append_right _ (List.mem_append_left _ (List.mem_of_getElem? (i := 41) (by decide +kernel)))) rfl
theorem kk_D_168 : Cond.classLink R_D 168 "java/lang/UnsupportedOperationException" ∈ gl := gl_T (List.mem_append_right _ (List.mem_append_left _ (List.mem_of_getElem? (i := 43) (by decide +kernel)))) rfl
theorem kn_UnsupportedOperationException : Cond.instantiable "java/lang/UnsupportedOperationException" 6 ∈ gl := gl_T (List.mem_append_right _ (List.mem_append_left _ (List.mem_of_getElem? (i := 44) (by decide +kernel)))) rfl
theorem kca_UnsupportedOperationException : Cond.castable "java/lang/UnsupportedOperationException" "java/lang/UnsupportedOperationException" ∈ gl := gl_T (List.mem_append_right _ (List.mem_append_left _ (List.mem_of_getElem? (i := 45) (by decide +kernel)))) rfl
theorem kr_D_181 : Cond.stringRef R_D 181 "a product is out of range" ∈ gl := gl_T (List.mem_append_right _ (List.mem_append_left _ (List.mem_of_getElem? (i := 52) (by decide +kernel)))) rfl
theorem kl_D_172 : Cond.methodLink R_D 172 ⟨"java/lang/UnsupportedOperationException", "<init>", "(Ljava/lang/String;)V"⟩ ∈ gl := gl_T (List.mem_append_right _ (List.mem_append_left _ (List.mem_of_getElem? (i := 53) (by decide +kernel)))) rfl
theorem kl_D_149 : Cond.methodLink R_D 149 y_D_plus ∈ gl := gl_T (List.mem_append_right _ (List.mem_append_left _ (List.mem_of_getElem? (i := 59) (by decide +kernel)))) rfl
theorem kst_D_plus : Cond.static y_D_plus ∈ gl := gl_T (List.mem_append_right _ (List.mem_append_left _ (List.mem_of_getElem? (i := 60) (by decide +kernel)))) rfl
theorem kr_D_170 : Cond.stringRef R_D 170 "a sum is out of range" ∈ gl := gl_T (List.mem_append_right _ (List.mem_append_left _ (List.mem_of_getElem? (i := 62) (by decide +kernel)))) rfl
theorem kl_D_153 : Cond.methodLink R_D 153 ⟨"java/lang/Math", "min", "(JJ)J"⟩ ∈ gl := gl_T (List.mem_append_right _ (List.mem_append_left _ (List.mem_of_getElem? (i := 63) (by decide +kernel)))) rfl
theorem kst_java_lang_Math_min : Cond.static ⟨"java/lang/Math", "min", "(JJ)J"⟩ ∈ gl := gl_T (List.mem_append_right _ (List.mem_append_left _ (List.mem_of_getElem? (i := 64) (by decide +kernel)))) rfl
theorem kl_D_119 : Cond.methodLink R_D 119 y_D_gather ∈ gl := gl_T (List.mem_append_right _ (List.mem_append_left _ (List.mem_of_getElem? (i := 66) (by decide +kernel)))) rfl
theorem kst_D_gather : Cond.static y_D_gather ∈ gl := gl_T (List.mem_append_right _ (List.mem_append_left _ (List.mem_of_getElem? (i := 67) (by decide +kernel)))) rfl
theorem kl_D_146 : Cond.methodLink R_D 146 y_D_sumOver ∈ gl := gl_T (List.mem_append_right _ (List.mem_append_left _ (List.mem_of_getElem? (i := 69) (by decide +kernel)))) rfl
theorem kst_D_sumOver : Cond.static y_D_sumOver ∈ gl := gl_T (List.mem_append_right _ (List.mem_append_left _ (List.mem_of_getElem? (i := 70) (by decide +kernel)))) rfl
theorem kl_D_158 : Cond.methodLink R_D 158 ⟨"java/lang/Math", "max", "(JJ)J"⟩ ∈ gl := gl_T (List.mem_append_right _ (List.mem_append_left _ (List.mem_of_getElem? (i := 72) (by decide +kernel)))) rfl
theorem kst_java_lang_Math_max : Cond.static ⟨"java/lang/Math", "max", "(JJ)J"⟩ ∈ gl := gl_T (List.mem_append_right _ (List.mem_append_left _ (List.mem_of_getElem? (i := 73) (by decide +kernel)))) rfl
theorem kl_D_93 : Cond.methodLink R_D 93 y_D_gatherAll ∈ gl := gl_T (List.mem_append_right _ (List.mem_append_left _ (List.mem_of_getElem? (i := 75) (by decide +kernel)))) rfl
theorem kst_D_gatherAll : Cond.static y_D_gatherAll ∈ gl := gl_T (List.mem_append_right _ (List.mem_append_left _ (List.mem_of_getElem? (i := 76) (by decide +kernel)))) rfl
theorem kl_D_97 : Cond.methodLink R_D 97 y_D_dropZeros ∈ gl := gl_T (List.mem_append_right _ (List.mem_append_left _ (List.mem_of_getElem? (i := 78) (by decide +kernel)))) rfl
theorem kst_D_dropZeros : Cond.static y_D_dropZeros ∈ gl := gl_T (List.mem_append_right _ (List.mem_append_left _ (List.mem_of_getElem? (i := 79) (by decide +kernel)))) rfl
theorem kl_D_101 : Cond.methodLink R_D 101 y_D_keep ∈ gl := gl_T (List.mem_append_right _ (List.mem_append_left _ (List.mem_of_getElem? (i := 81) (by decide +kernel)))) rfl
theorem kin_D_keep : Cond.instanceMethod y_D_keep ∈ gl := gl_T (List.mem_append_right _ (List.mem_append_left _ (List.mem_of_getElem? (i := 83) (by decide +kernel)))) rfl
theorem kl_L_108 : Cond.methodLink R_L 108 y_L_add ∈ gl := gl_T (List.mem_append_right _ (List.mem_append_left _ (List.mem_of_getElem? (i := 85) (by decide +kernel)))) rfl
theorem kst_L_add : Cond.static y_L_add ∈ gl := gl_T (List.mem_append_right _ (List.mem_append_left _ (List.mem_of_getElem? (i := 86) (by decide +kernel)))) rfl
theorem kl_L_41 : Cond.methodLink R_L 41 y_D_add ∈ gl := gl_T (List.mem_append_right _ (List.mem_append_left _ (List.mem_of_getElem? (i := 88) (by decide +kernel)))) rfl
theorem kin_D_add : Cond.instanceMethod y_D_add ∈ gl := gl_T (List.mem_append_right _ (List.mem_append_left _ (List.mem_of_getElem? (i := 89) (by decide +kernel)))) rfl
theorem kse_D_add : Cond.selects R_D y_D_add y_D_add ∈ gl := gl_T (List.mem_append_right _ (List.mem_append_left _ (List.mem_of_getElem? (i := 90) (by decide +kernel)))) rfl
theorem kl_D_105 : Cond.methodLink R_D 105 y_D_requireSameShape ∈ gl := gl_T (List.mem_append_right _ (List.mem_append_left _ (List.mem_of_getElem? (i := 92) (by decide +kernel)))) rfl
theorem kin_D_requireSameShape : Cond.instanceMethod y_D_requireSameShape ∈ gl := gl_T (List.mem_append_right _ (List.mem_append_left _ (List.mem_of_getElem? (i := 94) (by decide +kernel)))) rfl
theorem kl_L_112 : Cond.methodLink R_L 112 y_L_each ∈ gl := gl_T (List.mem_append_right _ (List.mem_append_left _ (List.mem_of_getElem? (i := 96) (by decide +kernel)))) rfl
theorem kst_L_each : Cond.static y_L_each ∈ gl := gl_T (List.mem_append_right _ (List.mem_append_left _ (List.mem_of_getElem? (i := 97) (by decide +kernel)))) rfl
theorem kl_L_45 : Cond.methodLink R_L 45 y_D_each ∈ gl := gl_T (List.mem_append_right _ (List.mem_append_left _ (List.mem_of_getElem? (i := 99) (by decide +kernel)))) rfl
theorem kin_D_each : Cond.instanceMethod y_D_each ∈ gl := gl_T (List.mem_append_right _ (List.mem_append_left _ (List.mem_of_getElem? (i := 100) (by decide +kernel)))) rfl
theorem kse_D_each : Cond.selects R_D y_D_each y_D_each ∈ gl := gl_T (List.mem_append_right _ (List.mem_append_left _ (List.mem_of_getElem? (i := 101) (by decide +kernel)))) rfl
theorem kl_L_115 : Cond.methodLink R_L 115 y_L_transpose ∈ gl := gl_T (List.mem_append_right _ (List.mem_append_left _ (List.mem_of_getElem? (i := 103) (by decide +kernel)))) rfl
theorem kst_L_transpose : Cond.static y_L_transpose ∈ gl := gl_T (List.mem_append_right _ (List.mem_append_left _ (List.mem_of_getElem? (i := 104) (by decide +kernel)))) rfl
theorem kl_L_48 : Cond.methodLink R_L 48 y_D_transpose ∈ gl := gl_T (List.mem_append_right _ (List.mem_append_left _ (List.mem_of_getElem? (i := 106) (by decide +kernel)))) rfl
theorem kin_D_transpose : Cond.instanceMethod y_D_transpose ∈ gl := gl_T (List.mem_append_right _ (List.mem_append_left _ (List.mem_of_getElem? (i := 107) (by decide +kernel)))) rfl
theorem kse_D_transpose : Cond.selects R_D y_D_transpose y_D_transpose ∈ gl := gl_T (List.mem_append_right _ (List.mem_append_left _ (List.mem_of_getElem? (i := 108) (by decide +kernel)))) rfl
theorem kl_L_119 : Cond.methodLink R_L 119 y_L_select ∈ gl := gl_T (List.mem_append_right _ (List.mem_append_left _ (List.mem_of_getElem? (i := 110) (by decide +kernel)))) rfl
theorem kst_L_select : Cond.static y_L_select ∈ gl := gl_T (List.mem_append_right _ (List.mem_append_left _ (List.mem_of_getElem? (i := 111) (by decide +kernel)))) rfl
theorem kl_L_52 : Cond.methodLink R_L 52 y_D_select ∈ gl := gl_T (List.mem_append_right _ (List.mem_append_left _ (List.mem_of_getElem? (i := 113) (by decide +kernel)))) rfl
theorem kin_D_select : Cond.instanceMethod y_D_select ∈ gl := gl_T (List.mem_append_right _ (List.mem_append_left _ (List.mem_of_getElem? (i := 114) (by decide +kernel)))) rfl
theorem kse_D_select : Cond.selects R_D y_D_select y_D_select ∈ gl := gl_T (List.mem_append_right _ (List.mem_append_left _ (List.mem_of_getElem? (i := 115) (by decide +kernel)))) rfl
theorem kl_D_112 : Cond.methodLink R_D 112 y_D_isSelected ∈ gl := gl_T (List.mem_append_right _ (List.mem_append_left _ (List.mem_of_getElem? (i := 117) (by decide +kernel)))) rfl
theorem kst_D_isSelected : Cond.static y_D_isSelected ∈ gl := gl_T (List.mem_append_right _ (List.mem_append_left _ (List.mem_of_getElem? (i := 118) (by decide +kernel)))) rfl
theorem kl_L_123 : Cond.methodLink R_L 123 y_L_reduce ∈ gl := gl_T (List.mem_append_right _ (List.mem_append_left _ (List.mem_of_getElem? (i := 120) (by decide +kernel)))) rfl
theorem kst_L_reduce : Cond.static y_L_reduce ∈ gl := gl_T (List.mem_append_right _ (List.mem_append_left _ (List.mem_of_getElem? (i := 121) (by decide +kernel)))) rfl
theorem kl_L_56 : Cond.methodLink R_L 56 y_D_reduce ∈ gl := gl_T (List.mem_append_right _ (List.mem_append_left _ (List.mem_of_getElem? (i := 123) (by decide +kernel)))) rfl
theorem kin_D_reduce : Cond.instanceMethod y_D_reduce ∈ gl := gl_T (List.mem_append_right _ (List.mem_append_left _ (List.mem_of_getElem? (i := 124) (by decide +kernel)))) rfl
theorem kse_D_reduce : Cond.selects R_D y_D_reduce y_D_reduce ∈ gl := gl_T (List.mem_append_right _ (List.mem_append_left _ (List.mem_of_getElem? (i := 125) (by decide +kernel)))) rfl
theorem kl_L_126 : Cond.methodLink R_L 126 y_L_levels ∈ gl := gl_T (List.mem_append_right _ (List.mem_append_left _ (List.mem_of_getElem? (i := 127) (by decide +kernel)))) rfl
theorem kst_L_levels : Cond.static y_L_levels ∈ gl := gl_T (List.mem_append_right _ (List.mem_append_left _ (List.mem_of_getElem? (i := 128) (by decide +kernel)))) rfl
theorem kl_L_60 : Cond.methodLink R_L 60 y_D_levels ∈ gl := gl_T (List.mem_append_right _ (List.mem_append_left _ (List.mem_of_getElem? (i := 130) (by decide +kernel)))) rfl
theorem kin_D_levels : Cond.instanceMethod y_D_levels ∈ gl := gl_T (List.mem_append_right _ (List.mem_append_left _ (List.mem_of_getElem? (i := 131) (by decide +kernel)))) rfl
theorem kse_D_levels : Cond.selects R_D y_D_levels y_D_levels ∈ gl := gl_T (List.mem_append_right _ (List.mem_append_left _ (List.mem_of_getElem? (i := 132) (by decide +kernel)))) rfl
theorem kl_D_123 : Cond.methodLink R_D 123 y_D_requireGraph ∈ gl := gl_T (List.mem_append_right _ (List.mem_append_left _ (List.mem_of_getElem? (i := 134) (by decide +kernel)))) rfl
theorem kin_D_requireGraph : Cond.instanceMethod y_D_requireGraph ∈ gl := gl_T (List.mem_append_right _ (List.mem_append_left _ (List.mem_of_getElem? (i := 136) (by decide +kernel)))) rfl
theorem kl_D_126 : Cond.methodLink R_D 126 y_D_requireVertex ∈ gl := gl_T (List.mem_append_right _ (List.mem_append_left _ (List.mem_of_getElem? (i := 138) (by decide +kernel)))) rfl
theorem kst_D_requireVertex : Cond.static y_D_requireVertex ∈ gl := gl_T (List.mem_append_right _ (List.mem_append_left _ (List.mem_of_getElem? (i := 139) (by decide +kernel)))) rfl
theorem kr_D_214 : Cond.stringRef R_D 214 "no such vertex" ∈ gl := gl_T (List.mem_append_right _ (List.mem_append_left _ (List.mem_of_getElem? (i := 141) (by decide +kernel)))) rfl
theorem kl_D_129 : Cond.methodLink R_D 129 y_D_enterNextLevel ∈ gl := gl_T (List.mem_append_right _ (List.mem_append_left _ (List.mem_of_getElem? (i := 142) (by decide +kernel)))) rfl
theorem kst_D_enterNextLevel : Cond.static y_D_enterNextLevel ∈ gl := gl_T (List.mem_append_right _ (List.mem_append_left _ (List.mem_of_getElem? (i := 143) (by decide +kernel)))) rfl
theorem kl_D_183 : Cond.methodLink R_D 183 y_D_enterNeighbours ∈ gl := gl_T (List.mem_append_right _ (List.mem_append_left _ (List.mem_of_getElem? (i := 145) (by decide +kernel)))) rfl
theorem kst_D_enterNeighbours : Cond.static y_D_enterNeighbours ∈ gl := gl_T (List.mem_append_right _ (List.mem_append_left _ (List.mem_of_getElem? (i := 146) (by decide +kernel)))) rfl
theorem kl_L_129 : Cond.methodLink R_L 129 y_L_paths ∈ gl := gl_T (List.mem_append_right _ (List.mem_append_left _ (List.mem_of_getElem? (i := 148) (by decide +kernel)))) rfl
theorem kst_L_paths : Cond.static y_L_paths ∈ gl := gl_T (List.mem_append_right _ (List.mem_append_left _ (List.mem_of_getElem? (i := 149) (by decide +kernel)))) rfl
theorem kl_L_64 : Cond.methodLink R_L 64 y_D_paths ∈ gl := gl_T (List.mem_append_right _ (List.mem_append_left _ (List.mem_of_getElem? (i := 151) (by decide +kernel)))) rfl
theorem kin_D_paths : Cond.instanceMethod y_D_paths ∈ gl := gl_T (List.mem_append_right _ (List.mem_append_left _ (List.mem_of_getElem? (i := 152) (by decide +kernel)))) rfl
theorem kse_D_paths : Cond.selects R_D y_D_paths y_D_paths ∈ gl := gl_T (List.mem_append_right _ (List.mem_append_left _ (List.mem_of_getElem? (i := 153) (by decide +kernel)))) rfl
theorem kl_D_132 : Cond.methodLink R_D 132 y_D_requireLengths ∈ gl := gl_T (List.mem_append_right _ (List.mem_append_left _ (List.mem_of_getElem? (i := 155) (by decide +kernel)))) rfl
theorem kst_D_requireLengths : Cond.static y_D_requireLengths ∈ gl := gl_T (List.mem_append_right _ (List.mem_append_left _ (List.mem_of_getElem? (i := 156) (by decide +kernel)))) rfl
theorem kq_D_216 : Cond.constantLong R_D 216 1000000000 ∈ gl := gl_T (List.mem_append_right _ (List.mem_append_left _ (List.mem_of_getElem? (i := 158) (by decide +kernel)))) rfl
theorem kr_D_218 : Cond.stringRef R_D 218 "a length is out of range" ∈ gl := gl_T (List.mem_append_right _ (List.mem_append_left _ (List.mem_of_getElem? (i := 159) (by decide +kernel)))) rfl
theorem kl_D_136 : Cond.methodLink R_D 136 y_D_shortenOver ∈ gl := gl_T (List.mem_append_right _ (List.mem_append_left _ (List.mem_of_getElem? (i := 160) (by decide +kernel)))) rfl
theorem kst_D_shortenOver : Cond.static y_D_shortenOver ∈ gl := gl_T (List.mem_append_right _ (List.mem_append_left _ (List.mem_of_getElem? (i := 161) (by decide +kernel)))) rfl
theorem kl_D_139 : Cond.methodLink R_D 139 y_D_requireNoCircleBelowZero ∈ gl := gl_T (List.mem_append_right _ (List.mem_append_left _ (List.mem_of_getElem? (i := 163) (by decide +kernel)))) rfl
theorem kst_D_requireNoCircleBelowZero : Cond.static y_D_requireNoCircleBelowZero ∈ gl := gl_T (List.mem_append_right _ (List.mem_append_left _ (List.mem_of_getElem? (i := 164) (by decide +kernel)))) rfl
theorem kr_D_220 : Cond.stringRef R_D 220 "a circle is shorter than 0" ∈ gl := gl_T (List.mem_append_right _ (List.mem_append_left _ (List.mem_of_getElem? (i := 166) (by decide +kernel)))) rfl
theorem kl_L_132 : Cond.methodLink R_L 132 y_L_triangles ∈ gl := gl_T (List.mem_append_right _ (List.mem_append_left _ (List.mem_of_getElem? (i := 167) (by decide +kernel)))) rfl
theorem kst_L_triangles : Cond.static y_L_triangles ∈ gl := gl_T (List.mem_append_right _ (List.mem_append_left _ (List.mem_of_getElem? (i := 168) (by decide +kernel)))) rfl
theorem kl_L_67 : Cond.methodLink R_L 67 y_D_triangles ∈ gl := gl_T (List.mem_append_right _ (List.mem_append_left _ (List.mem_of_getElem? (i := 170) (by decide +kernel)))) rfl
theorem kin_D_triangles : Cond.instanceMethod y_D_triangles ∈ gl := gl_T (List.mem_append_right _ (List.mem_append_left _ (List.mem_of_getElem? (i := 171) (by decide +kernel)))) rfl
theorem kse_D_triangles : Cond.selects R_D y_D_triangles y_D_triangles ∈ gl := gl_T (List.mem_append_right _ (List.mem_append_left _ (List.mem_of_getElem? (i := 172) (by decide +kernel)))) rfl
theorem kl_L_135 : Cond.methodLink R_L 135 y_L_components ∈ gl := gl_T (List.mem_append_right _ (List.mem_append_left _ (List.mem_of_getElem? (i := 174) (by decide +kernel)))) rfl
theorem kst_L_components : Cond.static y_L_components ∈ gl := gl_T (List.mem_append_right _ (List.mem_append_left _ (List.mem_of_getElem? (i := 175) (by decide +kernel)))) rfl
theorem kl_L_70 : Cond.methodLink R_L 70 y_D_components ∈ gl := gl_T (List.mem_append_right _ (List.mem_append_left _ (List.mem_of_getElem? (i := 177) (by decide +kernel)))) rfl
theorem kin_D_components : Cond.instanceMethod y_D_components ∈ gl := gl_T (List.mem_append_right _ (List.mem_append_left _ (List.mem_of_getElem? (i := 178) (by decide +kernel)))) rfl
theorem kse_D_components : Cond.selects R_D y_D_components y_D_components ∈ gl := gl_T (List.mem_append_right _ (List.mem_append_left _ (List.mem_of_getElem? (i := 179) (by decide +kernel)))) rfl
theorem kl_D_142 : Cond.methodLink R_D 142 y_D_spreadLeastVertices ∈ gl := gl_T (List.mem_append_right _ (List.mem_append_left _ (List.mem_of_getElem? (i := 181) (by decide +kernel)))) rfl
theorem kst_D_spreadLeastVertices : Cond.static y_D_spreadLeastVertices ∈ gl := gl_T (List.mem_append_right _ (List.mem_append_left _ (List.mem_of_getElem? (i := 182) (by decide +kernel)))) rfl
theorem kk_L_74 : Cond.classLink R_L 74 R_R ∈ gl := gl_T (List.mem_append_right _ (List.mem_append_left _ (List.mem_of_getElem? (i := 184) (by decide +kernel)))) rfl
theorem kn_R : Cond.instantiable R_R 10 ∈ gl := gl_T (List.mem_append_right _ (List.mem_append_left _ (List.mem_of_getElem? (i := 185) (by decide +kernel)))) rfl
theorem kl_L_76 : Cond.methodLink R_L 76 y_R_init ∈ gl := gl_T (List.mem_append_right _ (List.mem_append_left _ (List.mem_of_getElem? (i := 186) (by decide +kernel)))) rfl
theorem kin_R_init : Cond.instanceMethod y_R_init ∈ gl := gl_T (List.mem_append_right _ (List.mem_append_left _ (List.mem_of_getElem? (i := 187) (by decide +kernel)))) rfl
theorem kl_R_1 : Cond.methodLink R_R 1 ⟨"java/lang/Object", "<init>", "()V"⟩ ∈ gl := gl_T (List.mem_append_right _ (List.mem_append_left _ (List.mem_of_getElem? (i := 189) (by decide +kernel)))) rfl
theorem kf_R_30 : Cond.fieldLink R_R 30 R_R "thrown" "I" ∈ gl := gl_T (List.mem_append_right _ (List.mem_append_left _ (List.mem_of_getElem? (i := 190) (by decide +kernel)))) rfl
theorem kf_R_7 : Cond.fieldLink R_R 7 R_R "rows" "[I" ∈ gl := gl_T (List.mem_append_right _ (List.mem_append_left _ (List.mem_of_getElem? (i := 191) (by decide +kernel)))) rfl
theorem kf_R_13 : Cond.fieldLink R_R 13 R_R "columns" "[I" ∈ gl := gl_T (List.mem_append_right _ (List.mem_append_left _ (List.mem_of_getElem? (i := 192) (by decide +kernel)))) rfl
theorem kf_R_16 : Cond.fieldLink R_R 16 R_R "has" "[Z" ∈ gl := gl_T (List.mem_append_right _ (List.mem_append_left _ (List.mem_of_getElem? (i := 193) (by decide +kernel)))) rfl
theorem kf_R_20 : Cond.fieldLink R_R 20 R_R "value" "[J" ∈ gl := gl_T (List.mem_append_right _ (List.mem_append_left _ (List.mem_of_getElem? (i := 194) (by decide +kernel)))) rfl
theorem kf_R_65 : Cond.fieldLink R_R 65 R_R "wide" "I" ∈ gl := gl_T (List.mem_append_right _ (List.mem_append_left _ (List.mem_of_getElem? (i := 195) (by decide +kernel)))) rfl
theorem kf_R_62 : Cond.fieldLink R_R 62 R_R "high" "I" ∈ gl := gl_T (List.mem_append_right _ (List.mem_append_left _ (List.mem_of_getElem? (i := 196) (by decide +kernel)))) rfl
theorem kf_R_24 : Cond.fieldLink R_R 24 R_R "there" "[Z" ∈ gl := gl_T (List.mem_append_right _ (List.mem_append_left _ (List.mem_of_getElem? (i := 197) (by decide +kernel)))) rfl
theorem kf_R_27 : Cond.fieldLink R_R 27 R_R "made" "[J" ∈ gl := gl_T (List.mem_append_right _ (List.mem_append_left _ (List.mem_of_getElem? (i := 198) (by decide +kernel)))) rfl
theorem kf_R_54 : Cond.fieldLink R_R 54 R_R "far" "Z" ∈ gl := gl_T (List.mem_append_right _ (List.mem_append_left _ (List.mem_of_getElem? (i := 199) (by decide +kernel)))) rfl
theorem kl_L_83 : Cond.methodLink R_L 83 y_R_thrown ∈ gl := gl_T (List.mem_append_right _ (List.mem_append_left _ (List.mem_of_getElem? (i := 222) (by decide +kernel)))) rfl
theorem kin_R_thrown : Cond.instanceMethod y_R_thrown ∈ gl := gl_T (List.mem_append_right _ (List.mem_append_left _ (List.mem_of_getElem? (i := 223) (by decide +kernel)))) rfl
theorem kse_R_thrown : Cond.selects R_R y_R_thrown y_R_thrown ∈ gl := gl_T (List.mem_append_right _ (List.mem_append_left _ (List.mem_of_getElem? (i := 224) (by decide +kernel)))) rfl
theorem kl_L_82 : Cond.methodLink R_L 82 y_R_shape ∈ gl := gl_T (List.mem_append_right _ (List.mem_append_left _ (List.mem_of_getElem? (i := 226) (by decide +kernel)))) rfl
theorem kin_R_shape : Cond.instanceMethod y_R_shape ∈ gl := gl_T (List.mem_append_right _ (List.mem_append_left _ (List.mem_of_getElem? (i := 227) (by decide +kernel)))) rfl
theorem kse_R_shape : Cond.selects R_R y_R_shape y_R_shape ∈ gl := gl_T (List.mem_append_right _ (List.mem_append_left _ (List.mem_of_getElem? (i := 228) (by decide +kernel)))) rfl
theorem kl_R_38 : Cond.methodLink R_R 38 y_R_isRegister ∈ gl := gl_T (List.mem_append_right _ (List.mem_append_left _ (List.mem_of_getElem? (i := 230) (by decide +kernel)))) rfl
theorem kst_R_isRegister : Cond.static y_R_isRegister ∈ gl := gl_T (List.mem_append_right _ (List.mem_append_left _ (List.mem_of_getElem? (i := 231) (by decide +kernel)))) rfl
theorem kl_L_92 : Cond.methodLink R_L 92 y_R_put ∈ gl := gl_T (List.mem_append_right _ (List.mem_append_left _ (List.mem_of_getElem? (i := 233) (by decide +kernel)))) rfl
theorem kin_R_put : Cond.instanceMethod y_R_put ∈ gl := gl_T (List.mem_append_right _ (List.mem_append_left _ (List.mem_of_getElem? (i := 234) (by decide +kernel)))) rfl
theorem kse_R_put : Cond.selects R_R y_R_put y_R_put ∈ gl := gl_T (List.mem_append_right _ (List.mem_append_left _ (List.mem_of_getElem? (i := 235) (by decide +kernel)))) rfl
theorem kl_R_42 : Cond.methodLink R_R 42 y_R_isPlace ∈ gl := gl_T (List.mem_append_right _ (List.mem_append_left _ (List.mem_of_getElem? (i := 237) (by decide +kernel)))) rfl
theorem kin_R_isPlace : Cond.instanceMethod y_R_isPlace ∈ gl := gl_T (List.mem_append_right _ (List.mem_append_left _ (List.mem_of_getElem? (i := 239) (by decide +kernel)))) rfl
theorem kl_R_46 : Cond.methodLink R_R 46 y_R_isValue ∈ gl := gl_T (List.mem_append_right _ (List.mem_append_right _ (List.mem_of_getElem? (i := 1) (by decide +kernel)))) rfl
theorem kst_R_isValue : Cond.static y_R_isValue ∈ gl := gl_T (List.mem_append_right _ (List.mem_append_right _ (List.mem_of_getElem? (i := 2) (by decide +kernel)))) rfl
theorem kq_R_34 : Cond.constantLong R_R 34 (-1000000000000) ∈ gl := gl_T (List.mem_append_right _ (List.mem_append_right _ (List.mem_of_getElem? (i := 4) (by decide +kernel)))) rfl
theorem kq_R_36 : Cond.constantLong R_R 36 1000000000000 ∈ gl := gl_T (List.mem_append_right _ (List.mem_append_right _ (List.mem_of_getElem? (i := 5) (by decide +kernel)))) rfl
theorem kl_L_96 : Cond.methodLink R_L 96 y_R_drop ∈ gl := gl_T (List.mem_append_right _ (List.mem_append_right _ (List.mem_of_getElem? (i := 6) (by decide +kernel)))) rfl
theorem kin_R_drop : Cond.instanceMethod y_R_drop ∈ gl := gl_T (List.mem_append_right _ (List.mem_append_right _ (List.mem_of_getElem? (i := 7) (by decide +kernel)))) rfl
theorem kse_R_drop : Cond.selects R_R y_R_drop y_R_drop ∈ gl := gl_T (List.mem_append_right _ (List.mem_append_right _ (List.mem_of_getElem? (i := 8) (by decide +kernel)))) rfl
theorem kl_L_99 : Cond.methodLink R_L 99 y_R_at ∈ gl := gl_T (List.mem_append_right _ (List.mem_append_right _ (List.mem_of_getElem? (i := 10) (by decide +kernel)))) rfl
theorem kin_R_at : Cond.instanceMethod y_R_at ∈ gl := gl_T (List.mem_append_right _ (List.mem_append_right _ (List.mem_of_getElem? (i := 11) (by decide +kernel)))) rfl
theorem kse_R_at : Cond.selects R_R y_R_at y_R_at ∈ gl := gl_T (List.mem_append_right _ (List.mem_append_right _ (List.mem_of_getElem? (i := 12) (by decide +kernel)))) rfl
theorem kl_L_103 : Cond.methodLink R_L 103 y_R_size ∈ gl := gl_T (List.mem_append_right _ (List.mem_append_right _ (List.mem_of_getElem? (i := 14) (by decide +kernel)))) rfl
theorem kin_R_size : Cond.instanceMethod y_R_size ∈ gl := gl_T (List.mem_append_right _ (List.mem_append_right _ (List.mem_of_getElem? (i := 15) (by decide +kernel)))) rfl
theorem kse_R_size : Cond.selects R_R y_R_size y_R_size ∈ gl := gl_T (List.mem_append_right _ (List.mem_append_right _ (List.mem_of_getElem? (i := 16) (by decide +kernel)))) rfl
theorem kl_R_50 : Cond.methodLink R_R 50 y_R_entries ∈ gl := gl_T (List.mem_append_right _ (List.mem_append_right _ (List.mem_of_getElem? (i := 18) (by decide +kernel)))) rfl
theorem kin_R_entries : Cond.instanceMethod y_R_entries ∈ gl := gl_T (List.mem_append_right _ (List.mem_append_right _ (List.mem_of_getElem? (i := 20) (by decide +kernel)))) rfl
theorem kl_L_107 : Cond.methodLink R_L 107 y_R_multiply ∈ gl := gl_T (List.mem_append_right _ (List.mem_append_right _ (List.mem_of_getElem? (i := 22) (by decide +kernel)))) rfl
theorem kin_R_multiply : Cond.instanceMethod y_R_multiply ∈ gl := gl_T (List.mem_append_right _ (List.mem_append_right _ (List.mem_of_getElem? (i := 23) (by decide +kernel)))) rfl
theorem kse_R_multiply : Cond.selects R_R y_R_multiply y_R_multiply ∈ gl := gl_T (List.mem_append_right _ (List.mem_append_right _ (List.mem_of_getElem? (i := 24) (by decide +kernel)))) rfl
theorem kl_R_79 : Cond.methodLink R_R 79 y_R_isRing ∈ gl := gl_T (List.mem_append_right _ (List.mem_append_right _ (List.mem_of_getElem? (i := 26) (by decide +kernel)))) rfl
theorem kst_R_isRing : Cond.static y_R_isRing ∈ gl := gl_T (List.mem_append_right _ (List.mem_append_right _ (List.mem_of_getElem? (i := 27) (by decide +kernel)))) rfl
theorem kl_R_82 : Cond.methodLink R_R 82 y_R_begin ∈ gl := gl_T (List.mem_append_right _ (List.mem_append_right _ (List.mem_of_getElem? (i := 29) (by decide +kernel)))) rfl
theorem kin_R_begin : Cond.instanceMethod y_R_begin ∈ gl := gl_T (List.mem_append_right _ (List.mem_append_right _ (List.mem_of_getElem? (i := 31) (by decide +kernel)))) rfl
theorem kl_R_86 : Cond.methodLink R_R 86 y_R_cross ∈ gl := gl_T (List.mem_append_right _ (List.mem_append_right _ (List.mem_of_getElem? (i := 33) (by decide +kernel)))) rfl
theorem kin_R_cross : Cond.instanceMethod y_R_cross ∈ gl := gl_T (List.mem_append_right _ (List.mem_append_right _ (List.mem_of_getElem? (i := 35) (by decide +kernel)))) rfl
theorem kl_R_68 : Cond.methodLink R_R 68 y_R_product ∈ gl := gl_T (List.mem_append_right _ (List.mem_append_right _ (List.mem_of_getElem? (i := 37) (by decide +kernel)))) rfl
theorem kin_R_product : Cond.instanceMethod y_R_product ∈ gl := gl_T (List.mem_append_right _ (List.mem_append_right _ (List.mem_of_getElem? (i := 39) (by decide +kernel)))) rfl
theorem kl_R_58 : Cond.methodLink R_R 58 y_R_size0 ∈ gl := gl_T (List.mem_append_right _ (List.mem_append_right _ (List.mem_of_getElem? (i := 41) (by decide +kernel)))) rfl
theorem kst_R_size0 : Cond.static y_R_size0 ∈ gl := gl_T (List.mem_append_right _ (List.mem_append_right _ (List.mem_of_getElem? (i := 42) (by decide +kernel)))) rfl
theorem kl_R_72 : Cond.methodLink R_R 72 y_R_sum ∈ gl := gl_T (List.mem_append_right _ (List.mem_append_right _ (List.mem_of_getElem? (i := 44) (by decide +kernel)))) rfl
theorem kin_R_sum : Cond.instanceMethod y_R_sum ∈ gl := gl_T (List.mem_append_right _ (List.mem_append_right _ (List.mem_of_getElem? (i := 46) (by decide +kernel)))) rfl
theorem kl_R_75 : Cond.methodLink R_R 75 y_R_make ∈ gl := gl_T (List.mem_append_right _ (List.mem_append_right _ (List.mem_of_getElem? (i := 48) (by decide +kernel)))) rfl
theorem kin_R_make : Cond.instanceMethod y_R_make ∈ gl := gl_T (List.mem_append_right _ (List.mem_append_right _ (List.mem_of_getElem? (i := 50) (by decide +kernel)))) rfl
theorem kl_R_90 : Cond.methodLink R_R 90 y_R_join ∈ gl := gl_T (List.mem_append_right _ (List.mem_append_right _ (List.mem_of_getElem? (i := 52) (by decide +kernel)))) rfl
theorem kin_R_join : Cond.instanceMethod y_R_join ∈ gl := gl_T (List.mem_append_right _ (List.mem_append_right _ (List.mem_of_getElem? (i := 54) (by decide +kernel)))) rfl
theorem kl_R_93 : Cond.methodLink R_R 93 y_R_finish ∈ gl := gl_T (List.mem_append_right _ (List.mem_append_right _ (List.mem_of_getElem? (i := 56) (by decide +kernel)))) rfl
theorem kin_R_finish : Cond.instanceMethod y_R_finish ∈ gl := gl_T (List.mem_append_right _ (List.mem_append_right _ (List.mem_of_getElem? (i := 58) (by decide +kernel)))) rfl
theorem kl_L_111 : Cond.methodLink R_L 111 y_R_add ∈ gl := gl_T (List.mem_append_right _ (List.mem_append_right _ (List.mem_of_getElem? (i := 60) (by decide +kernel)))) rfl
theorem kin_R_add : Cond.instanceMethod y_R_add ∈ gl := gl_T (List.mem_append_right _ (List.mem_append_right _ (List.mem_of_getElem? (i := 61) (by decide +kernel)))) rfl
theorem kse_R_add : Cond.selects R_R y_R_add y_R_add ∈ gl := gl_T (List.mem_append_right _ (List.mem_append_right _ (List.mem_of_getElem? (i := 62) (by decide +kernel)))) rfl
theorem kl_R_97 : Cond.methodLink R_R 97 y_R_pair ∈ gl := gl_T (List.mem_append_right _ (List.mem_append_right _ (List.mem_of_getElem? (i := 64) (by decide +kernel)))) rfl
theorem kin_R_pair : Cond.instanceMethod y_R_pair ∈ gl := gl_T (List.mem_append_right _ (List.mem_append_right _ (List.mem_of_getElem? (i := 66) (by decide +kernel)))) rfl
theorem kl_L_114 : Cond.methodLink R_L 114 y_R_each ∈ gl := gl_T (List.mem_append_right _ (List.mem_append_right _ (List.mem_of_getElem? (i := 68) (by decide +kernel)))) rfl
theorem kin_R_each : Cond.instanceMethod y_R_each ∈ gl := gl_T (List.mem_append_right _ (List.mem_append_right _ (List.mem_of_getElem? (i := 69) (by decide +kernel)))) rfl
theorem kse_R_each : Cond.selects R_R y_R_each y_R_each ∈ gl := gl_T (List.mem_append_right _ (List.mem_append_right _ (List.mem_of_getElem? (i := 70) (by decide +kernel)))) rfl
theorem kl_L_118 : Cond.methodLink R_L 118 y_R_transpose ∈ gl := gl_T (List.mem_append_right _ (List.mem_append_right _ (List.mem_of_getElem? (i := 72) (by decide +kernel)))) rfl
theorem kin_R_transpose : Cond.instanceMethod y_R_transpose ∈ gl := gl_T (List.mem_append_right _ (List.mem_append_right _ (List.mem_of_getElem? (i := 73) (by decide +kernel)))) rfl
theorem kse_R_transpose : Cond.selects R_R y_R_transpose y_R_transpose ∈ gl := gl_T (List.mem_append_right _ (List.mem_append_right _ (List.mem_of_getElem? (i := 74) (by decide +kernel)))) rfl
theorem kl_L_122 : Cond.methodLink R_L 122 y_R_select ∈ gl := gl_T (List.mem_append_right _ (List.mem_append_right _ (List.mem_of_getElem? (i := 76) (by decide +kernel)))) rfl
theorem kin_R_select : Cond.instanceMethod y_R_select ∈ gl := gl_T (List.mem_append_right _ (List.mem_append_right _ (List.mem_of_getElem? (i := 77) (by decide +kernel)))) rfl
theorem kse_R_select : Cond.selects R_R y_R_select y_R_select ∈ gl := gl_T (List.mem_append_right _ (List.mem_append_right _ (List.mem_of_getElem? (i := 78) (by decide +kernel)))) rfl
theorem kl_R_101 : Cond.methodLink R_R 101 y_R_chosen ∈ gl := gl_T (List.mem_append_right _ (List.mem_append_right _ (List.mem_of_getElem? (i := 80) (by decide +kernel)))) rfl
theorem kst_R_chosen : Cond.static y_R_chosen ∈ gl := gl_T (List.mem_append_right _ (List.mem_append_right _ (List.mem_of_getElem? (i := 81) (by decide +kernel)))) rfl
theorem kl_L_125 : Cond.methodLink R_L 125 y_R_reduce ∈ gl := gl_T (List.mem_append_right _ (List.mem_append_right _ (List.mem_of_getElem? (i := 83) (by decide +kernel)))) rfl
theorem kin_R_reduce : Cond.instanceMethod y_R_reduce ∈ gl := gl_T (List.mem_append_right _ (List.mem_append_right _ (List.mem_of_getElem? (i := 84) (by decide +kernel)))) rfl
theorem kse_R_reduce : Cond.selects R_R y_R_reduce y_R_reduce ∈ gl := gl_T (List.mem_append_right _ (List.mem_append_right _ (List.mem_of_getElem? (i := 85) (by decide +kernel)))) rfl
theorem kl_L_128 : Cond.methodLink R_L 128 y_R_levels ∈ gl := gl_T (List.mem_append_right _ (List.mem_append_right _ (List.mem_of_getElem? (i := 87) (by decide +kernel)))) rfl
theorem kin_R_levels : Cond.instanceMethod y_R_levels ∈ gl := gl_T (List.mem_append_right _ (List.mem_append_right _ (List.mem_of_getElem? (i := 88) (by decide +kernel)))) rfl
theorem kse_R_levels : Cond.selects R_R y_R_levels y_R_levels ∈ gl := gl_T (List.mem_append_right _ (List.mem_append_right _ (List.mem_of_getElem? (i := 89) (by decide +kernel)))) rfl
theorem kl_R_105 : Cond.methodLink R_R 105 y_R_isSquare ∈ gl := gl_T (List.mem_append_right _ (List.mem_append_right _ (List.mem_of_getElem? (i := 91) (by decide +kernel)))) rfl
theorem kin_R_isSquare : Cond.instanceMethod y_R_isSquare ∈ gl := gl_T (List.mem_append_right _ (List.mem_append_right _ (List.mem_of_getElem? (i := 93) (by decide +kernel)))) rfl
theorem kl_L_131 : Cond.methodLink R_L 131 y_R_paths ∈ gl := gl_T (List.mem_append_right _ (List.mem_append_right _ (List.mem_of_getElem? (i := 95) (by decide +kernel)))) rfl
theorem kin_R_paths : Cond.instanceMethod y_R_paths ∈ gl := gl_T (List.mem_append_right _ (List.mem_append_right _ (List.mem_of_getElem? (i := 96) (by decide +kernel)))) rfl
theorem kse_R_paths : Cond.selects R_R y_R_paths y_R_paths ∈ gl := gl_T (List.mem_append_right _ (List.mem_append_right _ (List.mem_of_getElem? (i := 97) (by decide +kernel)))) rfl
theorem kq_R_108 : Cond.constantLong R_R 108 (-1000000000) ∈ gl := gl_T (List.mem_append_right _ (List.mem_append_right _ (List.mem_of_getElem? (i := 99) (by decide +kernel)))) rfl
theorem kq_R_110 : Cond.constantLong R_R 110 1000000000 ∈ gl := gl_T (List.mem_append_right _ (List.mem_append_right _ (List.mem_of_getElem? (i := 100) (by decide +kernel)))) rfl
theorem kl_R_112 : Cond.methodLink R_R 112 y_R_relax ∈ gl := gl_T (List.mem_append_right _ (List.mem_append_right _ (List.mem_of_getElem? (i := 101) (by decide +kernel)))) rfl
theorem kin_R_relax : Cond.instanceMethod y_R_relax ∈ gl := gl_T (List.mem_append_right _ (List.mem_append_right _ (List.mem_of_getElem? (i := 103) (by decide +kernel)))) rfl
theorem kl_L_134 : Cond.methodLink R_L 134 y_R_triangles ∈ gl := gl_T (List.mem_append_right _ (List.mem_append_right _ (List.mem_of_getElem? (i := 105) (by decide +kernel)))) rfl
theorem kin_R_triangles : Cond.instanceMethod y_R_triangles ∈ gl := gl_T (List.mem_append_right _ (List.mem_append_right _ (List.mem_of_getElem? (i := 106) (by decide +kernel)))) rfl
theorem kse_R_triangles : Cond.selects R_R y_R_triangles y_R_triangles ∈ gl := gl_T (List.mem_append_right _ (List.mem_append_right _ (List.mem_of_getElem? (i := 107) (by decide +kernel)))) rfl
theorem kl_L_137 : Cond.methodLink R_L 137 y_R_components ∈ gl := gl_T (List.mem_append_right _ (List.mem_append_right _ (List.mem_of_getElem? (i := 109) (by decide +kernel)))) rfl
theorem kin_R_components : Cond.instanceMethod y_R_components ∈ gl := gl_T (List.mem_append_right _ (List.mem_append_right _ (List.mem_of_getElem? (i := 110) (by decide +kernel)))) rfl
theorem kse_R_components : Cond.selects R_R y_R_components y_R_components ∈ gl := gl_T (List.mem_append_right _ (List.mem_append_right _ (List.mem_of_getElem? (i := 111) (by decide +kernel)))) rfl
theorem kq_L_87 : Cond.constantLong R_L 87 4294967295 ∈ gl := gl_T (List.mem_append_right _ (List.mem_append_right _ (List.mem_of_getElem? (i := 113) (by decide +kernel)))) rfl
theorem kse_D_requirePlace : Cond.selects R_D y_D_requirePlace y_D_requirePlace ∈ gl := gl_of (List.mem_append_left _ (List.mem_of_getElem? (i := 1) (by decide +kernel))) rfl
theorem kse_D_blank : Cond.selects R_D y_D_blank y_D_blank ∈ gl := gl_of (List.mem_append_left _ (List.mem_of_getElem? (i := 2) (by decide +kernel))) rfl
theorem kse_D_keep : Cond.selects R_D y_D_keep y_D_keep ∈ gl := gl_of (List.mem_append_left _ (List.mem_of_getElem? (i := 3) (by decide +kernel))) rfl
theorem kse_D_requireSameShape : Cond.selects R_D y_D_requireSameShape y_D_requireSameShape ∈ gl := gl_of (List.mem_append_left _ (List.mem_of_getElem? (i := 4) (by decide +kernel))) rfl
theorem kse_D_requireGraph : Cond.selects R_D y_D_requireGraph y_D_requireGraph ∈ gl := gl_of (List.mem_append_left _ (List.mem_of_getElem? (i := 5) (by decide +kernel))) rfl
theorem kse_R_isPlace : Cond.selects R_R y_R_isPlace y_R_isPlace ∈ gl := gl_of (List.mem_append_left _ (List.mem_of_getElem? (i := 6) (by decide +kernel))) rfl
theorem kse_R_entries : Cond.selects R_R y_R_entries y_R_entries ∈ gl := gl_of (List.mem_append_left _ (List.mem_of_getElem? (i := 7) (by decide +kernel))) rfl
theorem kse_R_begin : Cond.selects R_R y_R_begin y_R_begin ∈ gl := gl_of (List.mem_append_left _ (List.mem_of_getElem? (i := 8) (by decide +kernel))) rfl
theorem kse_R_cross : Cond.selects R_R y_R_cross y_R_cross ∈ gl := gl_of (List.mem_append_left _ (List.mem_of_getElem? (i := 9) (by decide +kernel))) rfl
theorem kse_R_product : Cond.selects R_R y_R_product y_R_product ∈ gl := gl_of (List.mem_append_left _ (List.mem_of_getElem? (i := 10) (by decide +kernel))) rfl
theorem kse_R_sum : Cond.selects R_R y_R_sum y_R_sum ∈ gl := gl_of (List.mem_append_left _ (List.mem_of_getElem? (i := 11) (by decide +kernel))) rfl
theorem kse_R_make : Cond.selects R_R y_R_make y_R_make ∈ gl := gl_of (List.mem_append_left _ (List.mem_of_getElem? (i := 12) (by decide +kernel))) rfl
theorem kse_R_join : Cond.selects R_R y_R_join y_R_join ∈ gl := gl_of (List.mem_append_left _ (List.mem_of_getElem? (i := 13) (by decide +kernel))) rfl
theorem kse_R_finish : Cond.selects R_R y_R_finish y_R_finish ∈ gl := gl_of (List.mem_append_left _ (List.mem_of_getElem? (i := 14) (by decide +kernel))) rfl
theorem kse_R_pair : Cond.selects R_R y_R_pair y_R_pair ∈ gl := gl_of (List.mem_append_left _ (List.mem_of_getElem? (i := 15) (by decide +kernel))) rfl
theorem kse_R_isSquare : Cond.selects R_R y_R_isSquare y_R_isSquare ∈ gl := gl_of (List.mem_append_left _ (List.mem_of_getElem? (i := 16) (by decide +kernel))) rfl
theorem kse_R_relax : Cond.selects R_R y_R_relax y_R_relax ∈ gl := gl_of (List.mem_append_left _ (List.mem_of_getElem? (i := 17) (by decide +kernel))) rfl
/-- the words of a static call; of a virtual one -/
def SW (own : String) (idx : Nat) (y : MethodName) (cw : Cond) (n : Nat) : Prop := Cond.methodLink own idx y ∈ gl ∧ Cond.static y ∈ gl ∧ Cond.initialized y.cls ∈ gl ∧ cw ∈ gl ∧ (y.cls ≠ "java/lang/invoke/MethodHandle" ∧ y.cls ≠ "java/lang/invoke/VarHandle") ∧ (parseMethodDescriptor y.desc).map (fun d => d.parameters.length) = some n
def VW (own : String) (idx : Nat) (y : MethodName) (cw : Cond) (n : Nat) : Prop := Cond.methodLink own idx y ∈ gl ∧ (Cond.instanceMethod y ∈ gl ∧ Cond.selects y.cls y y ∈ gl) ∧ Cond.initialized y.cls ∈ gl ∧ cw ∈ gl ∧ (y.cls ≠ "java/lang/invoke/MethodHandle" ∧ y.cls ≠ "java/lang/invoke/VarHandle") ∧ (parseMethodDescriptor y.desc).map (fun d => d.parameters.length) = some n
theorem s_D_20 : SW R_D 20 y_D_requireRegister cw_D_requireRegister 1 := ⟨kl_D_20, kst_D_requireRegister, ki_D, kc_D_requireRegister, by decide, by decide +kernel⟩
theorem s_D_24 : SW R_D 24 y_D_requireSide cw_D_requireSide 1 := ⟨kl_D_24, kst_D_requireSide, ki_D, kc_D_requireSide, by decide, by decide +kernel⟩
theorem v_D_27 : VW R_D 27 y_M_clear cw_M_clear 2 := ⟨kl_D_27, ⟨kin_M_clear, kse_M_clear⟩, ki_M, kc_M_clear, by decide, by decide +kernel⟩
theorem v_D_31 : VW R_D 31 y_D_requirePlace cw_D_requirePlace 3 := ⟨kl_D_31, ⟨kin_D_requirePlace, kse_D_requirePlace⟩, ki_D, kc_D_requirePlace, by decide, by decide +kernel⟩
theorem s_D_35 : SW R_D 35 y_D_requireValue cw_D_requireValue 1 := ⟨kl_D_35, kst_D_requireValue, ki_D, kc_D_requireValue, by decide, by decide +kernel⟩
theorem v_D_39 : VW R_D 39 y_M_enter cw_M_enter 3 := ⟨kl_D_39, ⟨kin_M_enter, kse_M_enter⟩, ki_M, kc_M_enter, by decide, by decide +kernel⟩
theorem v_D_43 : VW R_D 43 y_M_has cw_M_has 2 := ⟨kl_D_43, ⟨kin_M_has, kse_M_has⟩, ki_M, kc_M_has, by decide, by decide +kernel⟩
theorem v_D_47 : VW R_D 47 y_M_remove cw_M_remove 2 := ⟨kl_D_47, ⟨kin_M_remove, kse_M_remove⟩, ki_M, kc_M_remove, by decide, by decide +kernel⟩
theorem s_D_50 : SW R_D 50 y_D_requireEntry cw_D_requireEntry 1 := ⟨kl_D_50, kst_D_requireEntry, ki_D, kc_D_requireEntry, by decide, by decide +kernel⟩
theorem v_D_54 : VW R_D 54 y_M_value cw_M_value 2 := ⟨kl_D_54, ⟨kin_M_value, kse_M_value⟩, ki_M, kc_M_value, by decide, by decide +kernel⟩
theorem v_D_65 : VW R_D 65 y_M_count cw_M_count 0 := ⟨kl_D_65, ⟨kin_M_count, kse_M_count⟩, ki_M, kc_M_count, by decide, by decide +kernel⟩
theorem s_D_69 : SW R_D 69 y_D_requireOperands cw_D_requireOperands 4 := ⟨kl_D_69, kst_D_requireOperands, ki_D, kc_D_requireOperands, by decide, by decide +kernel⟩
theorem s_D_73 : SW R_D 73 y_D_requireMask cw_D_requireMask 1 := ⟨kl_D_73, kst_D_requireMask, ki_D, kc_D_requireMask, by decide, by decide +kernel⟩
theorem s_D_76 : SW R_D 76 y_D_requireHow cw_D_requireHow 2 := ⟨kl_D_76, kst_D_requireHow, ki_D, kc_D_requireHow, by decide, by decide +kernel⟩
theorem s_D_79 : SW R_D 79 y_D_requireFit cw_D_requireFit 1 := ⟨kl_D_79, kst_D_requireFit, ki_D, kc_D_requireFit, by decide, by decide +kernel⟩
theorem v_D_82 : VW R_D 82 y_M_isShaped cw_M_isShaped 2 := ⟨kl_D_82, ⟨kin_M_isShaped, kse_M_isShaped⟩, ki_M, kc_M_isShaped, by decide, by decide +kernel⟩
theorem v_D_85 : VW R_D 85 y_D_blank cw_D_blank 2 := ⟨kl_D_85, ⟨kin_D_blank, kse_D_blank⟩, ki_D, kc_D_blank, by decide, by decide +kernel⟩
theorem s_D_89 : SW R_D 89 y_D_gatherProducts cw_D_gatherProducts 6 := ⟨kl_D_89, kst_D_gatherProducts, ki_D, kc_D_gatherProducts, by decide, by decide +kernel⟩
theorem s_D_93 : SW R_D 93 y_D_gatherAll cw_D_gatherAll 3 := ⟨kl_D_93, kst_D_gatherAll, ki_D, kc_D_gatherAll, by decide, by decide +kernel⟩
theorem s_D_97 : SW R_D 97 y_D_dropZeros cw_D_dropZeros 2 := ⟨kl_D_97, kst_D_dropZeros, ki_D, kc_D_dropZeros, by decide, by decide +kernel⟩
theorem v_D_101 : VW R_D 101 y_D_keep cw_D_keep 1 := ⟨kl_D_101, ⟨kin_D_keep, kse_D_keep⟩, ki_D, kc_D_keep, by decide, by decide +kernel⟩
theorem v_D_105 : VW R_D 105 y_D_requireSameShape cw_D_requireSameShape 2 := ⟨kl_D_105, ⟨kin_D_requireSameShape, kse_D_requireSameShape⟩, ki_D, kc_D_requireSameShape, by decide, by decide +kernel⟩
theorem s_D_108 : SW R_D 108 y_D_productOver cw_D_productOver 3 := ⟨kl_D_108, kst_D_productOver, ki_D, kc_D_productOver, by decide, by decide +kernel⟩
theorem s_D_112 : SW R_D 112 y_D_isSelected cw_D_isSelected 5 := ⟨kl_D_112, kst_D_isSelected, ki_D, kc_D_isSelected, by decide, by decide +kernel⟩
theorem s_D_116 : SW R_D 116 y_D_requireSemiring cw_D_requireSemiring 1 := ⟨kl_D_116, kst_D_requireSemiring, ki_D, kc_D_requireSemiring, by decide, by decide +kernel⟩
theorem s_D_119 : SW R_D 119 y_D_gather cw_D_gather 5 := ⟨kl_D_119, kst_D_gather, ki_D, kc_D_gather, by decide, by decide +kernel⟩
theorem v_D_123 : VW R_D 123 y_D_requireGraph cw_D_requireGraph 1 := ⟨kl_D_123, ⟨kin_D_requireGraph, kse_D_requireGraph⟩, ki_D, kc_D_requireGraph, by decide, by decide +kernel⟩
theorem s_D_126 : SW R_D 126 y_D_requireVertex cw_D_requireVertex 2 := ⟨kl_D_126, kst_D_requireVertex, ki_D, kc_D_requireVertex, by decide, by decide +kernel⟩
theorem s_D_129 : SW R_D 129 y_D_enterNextLevel cw_D_enterNextLevel 3 := ⟨kl_D_129, kst_D_enterNextLevel, ki_D, kc_D_enterNextLevel, by decide, by decide +kernel⟩
theorem s_D_132 : SW R_D 132 y_D_requireLengths cw_D_requireLengths 1 := ⟨kl_D_132, kst_D_requireLengths, ki_D, kc_D_requireLengths, by decide, by decide +kernel⟩
theorem s_D_136 : SW R_D 136 y_D_shortenOver cw_D_shortenOver 2 := ⟨kl_D_136, kst_D_shortenOver, ki_D, kc_D_shortenOver, by decide, by decide +kernel⟩
theorem s_D_139 : SW R_D 139 y_D_requireNoCircleBelowZero cw_D_requireNoCircleBelowZero 1 := ⟨kl_D_139, kst_D_requireNoCircleBelowZero, ki_D, kc_D_requireNoCircleBelowZero, by decide, by decide +kernel⟩
theorem s_D_142 : SW R_D 142 y_D_spreadLeastVertices cw_D_spreadLeastVertices 2 := ⟨kl_D_142, kst_D_spreadLeastVertices, ki_D, kc_D_spreadLeastVertices, by decide, by decide +kernel⟩
theorem s_D_146 : SW R_D 146 y_D_sumOver cw_D_sumOver 3 := ⟨kl_D_146, kst_D_sumOver, ki_D, kc_D_sumOver, by decide, by decide +kernel⟩
theorem s_D_149 : SW R_D 149 y_D_plus cw_D_plus 2 := ⟨kl_D_149, kst_D_plus, ki_D, kc_D_plus, by decide, by decide +kernel⟩
theorem s_D_161 : SW R_D 161 y_D_times cw_D_times 2 := ⟨kl_D_161, kst_D_times, ki_D, kc_D_times, by decide, by decide +kernel⟩
theorem s_D_164 : SW R_D 164 y_D_isValue cw_D_isValue 1 := ⟨kl_D_164, kst_D_isValue, ki_D, kc_D_isValue, by decide, by decide +kernel⟩
theorem s_D_183 : SW R_D 183 y_D_enterNeighbours cw_D_enterNeighbours 4 := ⟨kl_D_183, kst_D_enterNeighbours, ki_D, kc_D_enterNeighbours, by decide, by decide +kernel⟩
theorem v_L_7 : VW R_L 7 y_D_shape cw_D_shape 3 := ⟨kl_L_7, ⟨kin_D_shape, kse_D_shape⟩, ki_D, kc_D_shape, by decide, by decide +kernel⟩
theorem v_L_15 : VW R_L 15 y_D_put cw_D_put 4 := ⟨kl_L_15, ⟨kin_D_put, kse_D_put⟩, ki_D, kc_D_put, by decide, by decide +kernel⟩
theorem v_L_19 : VW R_L 19 y_D_drop cw_D_drop 3 := ⟨kl_L_19, ⟨kin_D_drop, kse_D_drop⟩, ki_D, kc_D_drop, by decide, by decide +kernel⟩
theorem v_L_23 : VW R_L 23 y_D_at cw_D_at 3 := ⟨kl_L_23, ⟨kin_D_at, kse_D_at⟩, ki_D, kc_D_at, by decide, by decide +kernel⟩
theorem v_L_29 : VW R_L 29 y_D_size cw_D_size 1 := ⟨kl_L_29, ⟨kin_D_size, kse_D_size⟩, ki_D, kc_D_size, by decide, by decide +kernel⟩
theorem v_L_33 : VW R_L 33 y_D_multiply cw_D_multiply 6 := ⟨kl_L_33, ⟨kin_D_multiply, kse_D_multiply⟩, ki_D, kc_D_multiply, by decide, by decide +kernel⟩
theorem v_L_41 : VW R_L 41 y_D_add cw_D_add 4 := ⟨kl_L_41, ⟨kin_D_add, kse_D_add⟩, ki_D, kc_D_add, by decide, by decide +kernel⟩
theorem v_L_45 : VW R_L 45 y_D_each cw_D_each 4 := ⟨kl_L_45, ⟨kin_D_each, kse_D_each⟩, ki_D, kc_D_each, by decide, by decide +kernel⟩
theorem v_L_48 : VW R_L 48 y_D_transpose cw_D_transpose 2 := ⟨kl_L_48, ⟨kin_D_transpose, kse_D_transpose⟩, ki_D, kc_D_transpose, by decide, by decide +kernel⟩
theorem v_L_52 : VW R_L 52 y_D_select cw_D_select 4 := ⟨kl_L_52, ⟨kin_D_select, kse_D_select⟩, ki_D, kc_D_select, by decide, by decide +kernel⟩
theorem v_L_56 : VW R_L 56 y_D_reduce cw_D_reduce 2 := ⟨kl_L_56, ⟨kin_D_reduce, kse_D_reduce⟩, ki_D, kc_D_reduce, by decide, by decide +kernel⟩
theorem v_L_60 : VW R_L 60 y_D_levels cw_D_levels 3 := ⟨kl_L_60, ⟨kin_D_levels, kse_D_levels⟩, ki_D, kc_D_levels, by decide, by decide +kernel⟩
theorem v_L_64 : VW R_L 64 y_D_paths cw_D_paths 2 := ⟨kl_L_64, ⟨kin_D_paths, kse_D_paths⟩, ki_D, kc_D_paths, by decide, by decide +kernel⟩
theorem v_L_67 : VW R_L 67 y_D_triangles cw_D_triangles 1 := ⟨kl_L_67, ⟨kin_D_triangles, kse_D_triangles⟩, ki_D, kc_D_triangles, by decide, by decide +kernel⟩
theorem v_L_70 : VW R_L 70 y_D_components cw_D_components 2 := ⟨kl_L_70, ⟨kin_D_components, kse_D_components⟩, ki_D, kc_D_components, by decide, by decide +kernel⟩
theorem s_L_77 : SW R_L 77 y_L_shape cw_L_shape 4 := ⟨kl_L_77, kst_L_shape, ki_L, kc_L_shape, by decide, by decide +kernel⟩
theorem v_L_82 : VW R_L 82 y_R_shape cw_R_shape 3 := ⟨kl_L_82, ⟨kin_R_shape, kse_R_shape⟩, ki_R, kc_R_shape, by decide, by decide +kernel⟩
theorem v_L_83 : VW R_L 83 y_R_thrown cw_R_thrown 0 := ⟨kl_L_83, ⟨kin_R_thrown, kse_R_thrown⟩, ki_R, kc_R_thrown, by decide, by decide +kernel⟩
theorem s_L_89 : SW R_L 89 y_L_put cw_L_put 5 := ⟨kl_L_89, kst_L_put, ki_L, kc_L_put, by decide, by decide +kernel⟩
theorem v_L_92 : VW R_L 92 y_R_put cw_R_put 4 := ⟨kl_L_92, ⟨kin_R_put, kse_R_put⟩, ki_R, kc_R_put, by decide, by decide +kernel⟩
theorem s_L_93 : SW R_L 93 y_L_drop cw_L_drop 5 := ⟨kl_L_93, kst_L_drop, ki_L, kc_L_drop, by decide, by decide +kernel⟩
theorem v_L_96 : VW R_L 96 y_R_drop cw_R_drop 3 := ⟨kl_L_96, ⟨kin_R_drop, kse_R_drop⟩, ki_R, kc_R_drop, by decide, by decide +kernel⟩
theorem s_L_97 : SW R_L 97 y_L_at cw_L_at 5 := ⟨kl_L_97, kst_L_at, ki_L, kc_L_at, by decide, by decide +kernel⟩
theorem v_L_99 : VW R_L 99 y_R_at cw_R_at 3 := ⟨kl_L_99, ⟨kin_R_at, kse_R_at⟩, ki_R, kc_R_at, by decide, by decide +kernel⟩
theorem s_L_100 : SW R_L 100 y_L_size cw_L_size 3 := ⟨kl_L_100, kst_L_size, ki_L, kc_L_size, by decide, by decide +kernel⟩
theorem v_L_103 : VW R_L 103 y_R_size cw_R_size 1 := ⟨kl_L_103, ⟨kin_R_size, kse_R_size⟩, ki_R, kc_R_size, by decide, by decide +kernel⟩
theorem s_L_104 : SW R_L 104 y_L_multiply cw_L_multiply 8 := ⟨kl_L_104, kst_L_multiply, ki_L, kc_L_multiply, by decide, by decide +kernel⟩
theorem v_L_107 : VW R_L 107 y_R_multiply cw_R_multiply 6 := ⟨kl_L_107, ⟨kin_R_multiply, kse_R_multiply⟩, ki_R, kc_R_multiply, by decide, by decide +kernel⟩
theorem s_L_108 : SW R_L 108 y_L_add cw_L_add 6 := ⟨kl_L_108, kst_L_add, ki_L, kc_L_add, by decide, by decide +kernel⟩
theorem v_L_111 : VW R_L 111 y_R_add cw_R_add 4 := ⟨kl_L_111, ⟨kin_R_add, kse_R_add⟩, ki_R, kc_R_add, by decide, by decide +kernel⟩
theorem s_L_112 : SW R_L 112 y_L_each cw_L_each 6 := ⟨kl_L_112, kst_L_each, ki_L, kc_L_each, by decide, by decide +kernel⟩
theorem v_L_114 : VW R_L 114 y_R_each cw_R_each 4 := ⟨kl_L_114, ⟨kin_R_each, kse_R_each⟩, ki_R, kc_R_each, by decide, by decide +kernel⟩
theorem s_L_115 : SW R_L 115 y_L_transpose cw_L_transpose 4 := ⟨kl_L_115, kst_L_transpose, ki_L, kc_L_transpose, by decide, by decide +kernel⟩
theorem v_L_118 : VW R_L 118 y_R_transpose cw_R_transpose 2 := ⟨kl_L_118, ⟨kin_R_transpose, kse_R_transpose⟩, ki_R, kc_R_transpose, by decide, by decide +kernel⟩
theorem s_L_119 : SW R_L 119 y_L_select cw_L_select 6 := ⟨kl_L_119, kst_L_select, ki_L, kc_L_select, by decide, by decide +kernel⟩
theorem v_L_122 : VW R_L 122 y_R_select cw_R_select 4 := ⟨kl_L_122, ⟨kin_R_select, kse_R_select⟩, ki_R, kc_R_select, by decide, by decide +kernel⟩
theorem s_L_123 : SW R_L 123 y_L_reduce cw_L_reduce 4 := ⟨kl_L_123, kst_L_reduce, ki_L, kc_L_reduce, by decide, by decide +kernel⟩
theorem v_L_125 : VW R_L 125 y_R_reduce cw_R_reduce 2 := ⟨kl_L_125, ⟨kin_R_reduce, kse_R_reduce⟩, ki_R, kc_R_reduce, by decide, by decide +kernel⟩
theorem s_L_126 : SW R_L 126 y_L_levels cw_L_levels 5 := ⟨kl_L_126, kst_L_levels, ki_L, kc_L_levels, by decide, by decide +kernel⟩
theorem v_L_128 : VW R_L 128 y_R_levels cw_R_levels 3 := ⟨kl_L_128, ⟨kin_R_levels, kse_R_levels⟩, ki_R, kc_R_levels, by decide, by decide +kernel⟩
theorem s_L_129 : SW R_L 129 y_L_paths cw_L_paths 4 := ⟨kl_L_129, kst_L_paths, ki_L, kc_L_paths, by decide, by decide +kernel⟩
theorem v_L_131 : VW R_L 131 y_R_paths cw_R_paths 2 := ⟨kl_L_131, ⟨kin_R_paths, kse_R_paths⟩, ki_R, kc_R_paths, by decide, by decide +kernel⟩
theorem s_L_132 : SW R_L 132 y_L_triangles cw_L_triangles 3 := ⟨kl_L_132, kst_L_triangles, ki_L, kc_L_triangles, by decide, by decide +kernel⟩
theorem v_L_134 : VW R_L 134 y_R_triangles cw_R_triangles 1 := ⟨kl_L_134, ⟨kin_R_triangles, kse_R_triangles⟩, ki_R, kc_R_triangles, by decide, by decide +kernel⟩
theorem s_L_135 : SW R_L 135 y_L_components cw_L_components 4 := ⟨kl_L_135, kst_L_components, ki_L, kc_L_components, by decide, by decide +kernel⟩
theorem v_L_137 : VW R_L 137 y_R_components cw_R_components 2 := ⟨kl_L_137, ⟨kin_R_components, kse_R_components⟩, ki_R, kc_R_components, by decide, by decide +kernel⟩
theorem s_R_38 : SW R_R 38 y_R_isRegister cw_R_isRegister 1 := ⟨kl_R_38, kst_R_isRegister, ki_R, kc_R_isRegister, by decide, by decide +kernel⟩
theorem v_R_42 : VW R_R 42 y_R_isPlace cw_R_isPlace 3 := ⟨kl_R_42, ⟨kin_R_isPlace, kse_R_isPlace⟩, ki_R, kc_R_isPlace, by decide, by decide +kernel⟩
theorem s_R_46 : SW R_R 46 y_R_isValue cw_R_isValue 1 := ⟨kl_R_46, kst_R_isValue, ki_R, kc_R_isValue, by decide, by decide +kernel⟩
theorem v_R_50 : VW R_R 50 y_R_entries cw_R_entries 1 := ⟨kl_R_50, ⟨kin_R_entries, kse_R_entries⟩, ki_R, kc_R_entries, by decide, by decide +kernel⟩
theorem s_R_58 : SW R_R 58 y_R_size0 cw_R_size0 1 := ⟨kl_R_58, kst_R_size0, ki_R, kc_R_size0, by decide, by decide +kernel⟩
theorem v_R_68 : VW R_R 68 y_R_product cw_R_product 3 := ⟨kl_R_68, ⟨kin_R_product, kse_R_product⟩, ki_R, kc_R_product, by decide, by decide +kernel⟩
theorem v_R_72 : VW R_R 72 y_R_sum cw_R_sum 3 := ⟨kl_R_72, ⟨kin_R_sum, kse_R_sum⟩, ki_R, kc_R_sum, by decide, by decide +kernel⟩
theorem v_R_75 : VW R_R 75 y_R_make cw_R_make 3 := ⟨kl_R_75, ⟨kin_R_make, kse_R_make⟩, ki_R, kc_R_make, by decide, by decide +kernel⟩
theorem s_R_79 : SW R_R 79 y_R_isRing cw_R_isRing 1 := ⟨kl_R_79, kst_R_isRing, ki_R, kc_R_isRing, by decide, by decide +kernel⟩
theorem v_R_82 : VW R_R 82 y_R_begin cw_R_begin 2 := ⟨kl_R_82, ⟨kin_R_begin, kse_R_begin⟩, ki_R, kc_R_begin, by decide, by decide +kernel⟩
theorem v_R_86 : VW R_R 86 y_R_cross cw_R_cross 5 := ⟨kl_R_86, ⟨kin_R_cross, kse_R_cross⟩, ki_R, kc_R_cross, by decide, by decide +kernel⟩
theorem v_R_90 : VW R_R 90 y_R_join cw_R_join 2 := ⟨kl_R_90, ⟨kin_R_join, kse_R_join⟩, ki_R, kc_R_join, by decide, by decide +kernel⟩
theorem v_R_93 : VW R_R 93 y_R_finish cw_R_finish 2 := ⟨kl_R_93, ⟨kin_R_finish, kse_R_finish⟩, ki_R, kc_R_finish, by decide, by decide +kernel⟩
theorem v_R_97 : VW R_R 97 y_R_pair cw_R_pair 4 := ⟨kl_R_97, ⟨kin_R_pair, kse_R_pair⟩, ki_R, kc_R_pair, by decide, by decide +kernel⟩
theorem s_R_101 : SW R_R 101 y_R_chosen cw_R_chosen 5 := ⟨kl_R_101, kst_R_chosen, ki_R, kc_R_chosen, by decide, by decide +kernel⟩
theorem v_R_105 : VW R_R 105 y_R_isSquare cw_R_isSquare 1 := ⟨kl_R_105, ⟨kin_R_isSquare, kse_R_isSquare⟩, ki_R, kc_R_isSquare, by decide, by decide +kernel⟩
theorem v_R_112 : VW R_R 112 y_R_relax cw_R_relax 0 := ⟨kl_R_112, ⟨kin_R_relax, kse_R_relax⟩, ki_R, kc_R_relax, by decide, by decide +kernel⟩
end
section
theorem d_M_init_0 : decode b_M_init 0 = .ok (.aload_n 0, 1) := by decide +kernel
theorem d_M_init_1 : decode b_M_init 1 = .ok (.invokespecial 3, 3) := by decide +kernel
theorem d_M_init_4 : decode b_M_init 4 = .ok (.aload_n 0, 1) := by decide +kernel
theorem d_M_init_5 : decode b_M_init 5 = .ok (.iconst 1, 1) := by decide +kernel
theorem d_M_init_6 : decode b_M_init 6 = .ok (.putfield 9, 3) := by decide +kernel
theorem d_M_init_9 : decode b_M_init 9 = .ok (.aload_n 0, 1) := by decide +kernel
theorem d_M_init_10 : decode b_M_init 10 = .ok (.iconst 1, 1) := by decide +kernel
theorem d_M_init_11 : decode b_M_init 11 = .ok (.putfield 15, 3) := by decide +kernel
theorem d_M_init_14 : decode b_M_init 14 = .ok (.aload_n 0, 1) := by decide +kernel
theorem d_M_init_15 : decode b_M_init 15 = .ok (.bipush 64, 2) := by decide +kernel
theorem d_M_init_17 : decode b_M_init 17 = .ok (.newarray .long, 2) := by decide +kernel
theorem d_M_init_19 : decode b_M_init 19 = .ok (.putfield 18, 3) := by decide +kernel
theorem d_M_init_22 : decode b_M_init 22 = .ok (.aload_n 0, 1) := by decide +kernel
theorem d_M_init_23 : decode b_M_init 23 = .ok (.bipush 64, 2) := by decide +kernel
theorem d_M_init_25 : decode b_M_init 25 = .ok (.newarray .boolean, 2) := by decide +kernel
theorem d_M_init_27 : decode b_M_init 27 = .ok (.putfield 22, 3) := by decide +kernel
theorem d_M_init_30 : decode b_M_init 30 = .ok (.return_, 1) := by decide +kernel
theorem d_M_clear_0 : decode b_M_clear 0 = .ok (.aload_n 0, 1) := by decide +kernel
theorem d_M_clear_1 : decode b_M_clear 1 = .ok (.iload_n 1, 1) := by decide +kernel
theorem d_M_clear_2 : decode b_M_clear 2 = .ok (.putfield 9, 3) := by decide +kernel
theorem d_M_clear_5 : decode b_M_clear 5 = .ok (.aload_n 0, 1) := by decide +kernel
theorem d_M_clear_6 : decode b_M_clear 6 = .ok (.iload_n 2, 1) := by decide +kernel
theorem d_M_clear_7 : decode b_M_clear 7 = .ok (.putfield 15, 3) := by decide +kernel
theorem d_M_clear_10 : decode b_M_clear 10 = .ok (.iconst 0, 1) := by decide +kernel
theorem d_M_clear_11 : decode b_M_clear 11 = .ok (.istore_n 3, 1) := by decide +kernel
theorem d_M_clear_12 : decode b_M_clear 12 = .ok (.iload_n 3, 1) := by decide +kernel
theorem d_M_clear_13 : decode b_M_clear 13 = .ok (.aload_n 0, 1) := by decide +kernel
theorem d_M_clear_14 : decode b_M_clear 14 = .ok (.getfield 22, 3) := by decide +kernel
theorem d_M_clear_17 : decode b_M_clear 17 = .ok (.arraylength, 1) := by decide +kernel
theorem d_M_clear_18 : decode b_M_clear 18 = .ok (.if_icmp .ge 16, 3) := by decide +kernel
theorem d_M_clear_21 : decode b_M_clear 21 = .ok (.aload_n 0, 1) := by decide +kernel
theorem d_M_clear_22 : decode b_M_clear 22 = .ok (.getfield 22, 3) := by decide +kernel
theorem d_M_clear_25 : decode b_M_clear 25 = .ok (.iload_n 3, 1) := by decide +kernel
theorem d_M_clear_26 : decode b_M_clear 26 = .ok (.iconst 0, 1) := by decide +kernel
theorem d_M_clear_27 : decode b_M_clear 27 = .ok (.bastore, 1) := by decide +kernel
theorem d_M_clear_28 : decode b_M_clear 28 = .ok (.iinc 3 1, 3) := by decide +kernel
theorem d_M_clear_31 : decode b_M_clear 31 = .ok (.goto (-19), 3) := by decide +kernel
theorem d_M_clear_34 : decode b_M_clear 34 = .ok (.return_, 1) := by decide +kernel
theorem d_M_isShaped_0 : decode b_M_isShaped 0 = .ok (.aload_n 0, 1) := by decide +kernel
theorem d_M_isShaped_1 : decode b_M_isShaped 1 = .ok (.getfield 9, 3) := by decide +kernel
theorem d_M_isShaped_4 : decode b_M_isShaped 4 = .ok (.iload_n 1, 1) := by decide +kernel
theorem d_M_isShaped_5 : decode b_M_isShaped 5 = .ok (.if_icmp .ne 15, 3) := by decide +kernel
theorem d_M_isShaped_8 : decode b_M_isShaped 8 = .ok (.aload_n 0, 1) := by decide +kernel
theorem d_M_isShaped_9 : decode b_M_isShaped 9 = .ok (.getfield 15, 3) := by decide +kernel
theorem d_M_isShaped_12 : decode b_M_isShaped 12 = .ok (.iload_n 2, 1) := by decide +kernel
theorem d_M_isShaped_13 : decode b_M_isShaped 13 = .ok (.if_icmp .ne 7, 3) := by decide +kernel
theorem d_M_isShaped_16 : decode b_M_isShaped 16 = .ok (.iconst 1, 1) := by decide +kernel
theorem d_M_isShaped_17 : decode b_M_isShaped 17 = .ok (.goto 4, 3) := by decide +kernel
theorem d_M_isShaped_20 : decode b_M_isShaped 20 = .ok (.iconst 0, 1) := by decide +kernel
theorem d_M_isShaped_21 : decode b_M_isShaped 21 = .ok (.ireturn, 1) := by decide +kernel
theorem d_M_has_0 : decode b_M_has 0 = .ok (.aload_n 0, 1) := by decide +kernel
theorem d_M_has_1 : decode b_M_has 1 = .ok (.getfield 22, 3) := by decide +kernel
theorem d_M_has_4 : decode b_M_has 4 = .ok (.iload_n 1, 1) := by decide +kernel
theorem d_M_has_5 : decode b_M_has 5 = .ok (.bipush 8, 2) := by decide +kernel
theorem d_M_has_7 : decode b_M_has 7 = .ok (.imul, 1) := by decide +kernel
theorem d_M_has_8 : decode b_M_has 8 = .ok (.iload_n 2, 1) := by decide +kernel
theorem d_M_has_9 : decode b_M_has 9 = .ok (.iadd, 1) := by decide +kernel
theorem d_M_has_10 : decode b_M_has 10 = .ok (.baload, 1) := by decide +kernel
theorem d_M_has_11 : decode b_M_has 11 = .ok (.ireturn, 1) := by decide +kernel
theorem d_M_value_0 : decode b_M_value 0 = .ok (.aload_n 0, 1) := by decide +kernel
theorem d_M_value_1 : decode b_M_value 1 = .ok (.getfield 18, 3) := by decide +kernel
theorem d_M_value_4 : decode b_M_value 4 = .ok (.iload_n 1, 1) := by decide +kernel
theorem d_M_value_5 : decode b_M_value 5 = .ok (.bipush 8, 2) := by decide +kernel
theorem d_M_value_7 : decode b_M_value 7 = .ok (.imul, 1) := by decide +kernel
theorem d_M_value_8 : decode b_M_value 8 = .ok (.iload_n 2, 1) := by decide +kernel
theorem d_M_value_9 : decode b_M_value 9 = .ok (.iadd, 1) := by decide +kernel
theorem d_M_value_10 : decode b_M_value 10 = .ok (.laload, 1) := by decide +kernel
theorem d_M_value_11 : decode b_M_value 11 = .ok (.lreturn, 1) := by decide +kernel
theorem d_M_enter_0 : decode b_M_enter 0 = .ok (.aload_n 0, 1) := by decide +kernel
theorem d_M_enter_1 : decode b_M_enter 1 = .ok (.getfield 18, 3) := by decide +kernel
theorem d_M_enter_4 : decode b_M_enter 4 = .ok (.iload_n 1, 1) := by decide +kernel
theorem d_M_enter_5 : decode b_M_enter 5 = .ok (.bipush 8, 2) := by decide +kernel
theorem d_M_enter_7 : decode b_M_enter 7 = .ok (.imul, 1) := by decide +kernel
theorem d_M_enter_8 : decode b_M_enter 8 = .ok (.iload_n 2, 1) := by decide +kernel
theorem d_M_enter_9 : decode b_M_enter 9 = .ok (.iadd, 1) := by decide +kernel
theorem d_M_enter_10 : decode b_M_enter 10 = .ok (.lload_n 3, 1) := by decide +kernel
theorem d_M_enter_11 : decode b_M_enter 11 = .ok (.lastore, 1) := by decide +kernel
theorem d_M_enter_12 : decode b_M_enter 12 = .ok (.aload_n 0, 1) := by decide +kernel
theorem d_M_enter_13 : decode b_M_enter 13 = .ok (.getfield 22, 3) := by decide +kernel
theorem d_M_enter_16 : decode b_M_enter 16 = .ok (.iload_n 1, 1) := by decide +kernel
theorem d_M_enter_17 : decode b_M_enter 17 = .ok (.bipush 8, 2) := by decide +kernel
theorem d_M_enter_19 : decode b_M_enter 19 = .ok (.imul, 1) := by decide +kernel
theorem d_M_enter_20 : decode b_M_enter 20 = .ok (.iload_n 2, 1) := by decide +kernel
theorem d_M_enter_21 : decode b_M_enter 21 = .ok (.iadd, 1) := by decide +kernel
theorem d_M_enter_22 : decode b_M_enter 22 = .ok (.iconst 1, 1) := by decide +kernel
theorem d_M_enter_23 : decode b_M_enter 23 = .ok (.bastore, 1) := by decide +kernel
theorem d_M_enter_24 : decode b_M_enter 24 = .ok (.return_, 1) := by decide +kernel
theorem d_M_remove_0 : decode b_M_remove 0 = .ok (.aload_n 0, 1) := by decide +kernel
theorem d_M_remove_1 : decode b_M_remove 1 = .ok (.getfield 22, 3) := by decide +kernel
theorem d_M_remove_4 : decode b_M_remove 4 = .ok (.iload_n 1, 1) := by decide +kernel
theorem d_M_remove_5 : decode b_M_remove 5 = .ok (.bipush 8, 2) := by decide +kernel
theorem d_M_remove_7 : decode b_M_remove 7 = .ok (.imul, 1) := by decide +kernel
theorem d_M_remove_8 : decode b_M_remove 8 = .ok (.iload_n 2, 1) := by decide +kernel
theorem d_M_remove_9 : decode b_M_remove 9 = .ok (.iadd, 1) := by decide +kernel
theorem d_M_remove_10 : decode b_M_remove 10 = .ok (.iconst 0, 1) := by decide +kernel
theorem d_M_remove_11 : decode b_M_remove 11 = .ok (.bastore, 1) := by decide +kernel
theorem d_M_remove_12 : decode b_M_remove 12 = .ok (.return_, 1) := by decide +kernel
theorem d_M_count_0 : decode b_M_count 0 = .ok (.iconst 0, 1) := by decide +kernel
theorem d_M_count_1 : decode b_M_count 1 = .ok (.istore_n 1, 1) := by decide +kernel
theorem d_M_count_2 : decode b_M_count 2 = .ok (.iconst 0, 1) := by decide +kernel
theorem d_M_count_3 : decode b_M_count 3 = .ok (.istore_n 2, 1) := by decide +kernel
theorem d_M_count_4 : decode b_M_count 4 = .ok (.iload_n 2, 1) := by decide +kernel
theorem d_M_count_5 : decode b_M_count 5 = .ok (.aload_n 0, 1) := by decide +kernel
theorem d_M_count_6 : decode b_M_count 6 = .ok (.getfield 22, 3) := by decide +kernel
theorem d_M_count_9 : decode b_M_count 9 = .ok (.arraylength, 1) := by decide +kernel
theorem d_M_count_10 : decode b_M_count 10 = .ok (.if_icmp .ge 21, 3) := by decide +kernel
theorem d_M_count_13 : decode b_M_count 13 = .ok (.aload_n 0, 1) := by decide +kernel
theorem d_M_count_14 : decode b_M_count 14 = .ok (.getfield 22, 3) := by decide +kernel
theorem d_M_count_17 : decode b_M_count 17 = .ok (.iload_n 2, 1) := by decide +kernel
theorem d_M_count_18 : decode b_M_count 18 = .ok (.baload, 1) := by decide +kernel
theorem d_M_count_19 : decode b_M_count 19 = .ok (.ifCond .eq 6, 3) := by decide +kernel
theorem d_M_count_22 : decode b_M_count 22 = .ok (.iinc 1 1, 3) := by decide +kernel
theorem d_M_count_25 : decode b_M_count 25 = .ok (.iinc 2 1, 3) := by decide +kernel
theorem d_M_count_28 : decode b_M_count 28 = .ok (.goto (-24), 3) := by decide +kernel
theorem d_M_count_31 : decode b_M_count 31 = .ok (.iload_n 1, 1) := by decide +kernel
theorem d_M_count_32 : decode b_M_count 32 = .ok (.ireturn, 1) := by decide +kernel
end
section
theorem d_D_init_0 : decode b_D_init 0 = .ok (.aload_n 0, 1) := by decide +kernel
theorem d_D_init_1 : decode b_D_init 1 = .ok (.invokespecial 1, 3) := by decide +kernel
theorem d_D_init_4 : decode b_D_init 4 = .ok (.aload_n 0, 1) := by decide +kernel
theorem d_D_init_5 : decode b_D_init 5 = .ok (.bipush 6, 2) := by decide +kernel
theorem d_D_init_7 : decode b_D_init 7 = .ok (.anewarray 9, 3) := by decide +kernel
theorem d_D_init_10 : decode b_D_init 10 = .ok (.putfield 11, 3) := by decide +kernel
theorem d_D_init_13 : decode b_D_init 13 = .ok (.iconst 0, 1) := by decide +kernel
theorem d_D_init_14 : decode b_D_init 14 = .ok (.istore_n 1, 1) := by decide +kernel
theorem d_D_init_15 : decode b_D_init 15 = .ok (.iload_n 1, 1) := by decide +kernel
theorem d_D_init_16 : decode b_D_init 16 = .ok (.bipush 6, 2) := by decide +kernel
theorem d_D_init_18 : decode b_D_init 18 = .ok (.if_icmp .ge 22, 3) := by decide +kernel
theorem d_D_init_21 : decode b_D_init 21 = .ok (.aload_n 0, 1) := by decide +kernel
theorem d_D_init_22 : decode b_D_init 22 = .ok (.getfield 11, 3) := by decide +kernel
theorem d_D_init_25 : decode b_D_init 25 = .ok (.iload_n 1, 1) := by decide +kernel
theorem d_D_init_26 : decode b_D_init 26 = .ok (.new 9, 3) := by decide +kernel
theorem d_D_init_29 : decode b_D_init 29 = .ok (.dup, 1) := by decide +kernel
theorem d_D_init_30 : decode b_D_init 30 = .ok (.invokespecial 15, 3) := by decide +kernel
theorem d_D_init_33 : decode b_D_init 33 = .ok (.aastore, 1) := by decide +kernel
theorem d_D_init_34 : decode b_D_init 34 = .ok (.iinc 1 1, 3) := by decide +kernel
theorem d_D_init_37 : decode b_D_init 37 = .ok (.goto (-22), 3) := by decide +kernel
theorem d_D_init_40 : decode b_D_init 40 = .ok (.aload_n 0, 1) := by decide +kernel
theorem d_D_init_41 : decode b_D_init 41 = .ok (.new 9, 3) := by decide +kernel
theorem d_D_init_44 : decode b_D_init 44 = .ok (.dup, 1) := by decide +kernel
theorem d_D_init_45 : decode b_D_init 45 = .ok (.invokespecial 15, 3) := by decide +kernel
theorem d_D_init_48 : decode b_D_init 48 = .ok (.putfield 16, 3) := by decide +kernel
theorem d_D_init_51 : decode b_D_init 51 = .ok (.return_, 1) := by decide +kernel
theorem d_D_shape_0 : decode b_D_shape 0 = .ok (.iload_n 1, 1) := by decide +kernel
theorem d_D_shape_1 : decode b_D_shape 1 = .ok (.invokestatic 20, 3) := by decide +kernel
theorem d_D_shape_4 : decode b_D_shape 4 = .ok (.iload_n 2, 1) := by decide +kernel
theorem d_D_shape_5 : decode b_D_shape 5 = .ok (.invokestatic 24, 3) := by decide +kernel
theorem d_D_shape_8 : decode b_D_shape 8 = .ok (.iload_n 3, 1) := by decide +kernel
theorem d_D_shape_9 : decode b_D_shape 9 = .ok (.invokestatic 24, 3) := by decide +kernel
theorem d_D_shape_12 : decode b_D_shape 12 = .ok (.aload_n 0, 1) := by decide +kernel
theorem d_D_shape_13 : decode b_D_shape 13 = .ok (.getfield 11, 3) := by decide +kernel
theorem d_D_shape_16 : decode b_D_shape 16 = .ok (.iload_n 1, 1) := by decide +kernel
theorem d_D_shape_17 : decode b_D_shape 17 = .ok (.aaload, 1) := by decide +kernel
theorem d_D_shape_18 : decode b_D_shape 18 = .ok (.iload_n 2, 1) := by decide +kernel
theorem d_D_shape_19 : decode b_D_shape 19 = .ok (.iload_n 3, 1) := by decide +kernel
theorem d_D_shape_20 : decode b_D_shape 20 = .ok (.invokevirtual 27, 3) := by decide +kernel
theorem d_D_shape_23 : decode b_D_shape 23 = .ok (.return_, 1) := by decide +kernel
theorem d_D_put_0 : decode b_D_put 0 = .ok (.aload_n 0, 1) := by decide +kernel
theorem d_D_put_1 : decode b_D_put 1 = .ok (.iload_n 1, 1) := by decide +kernel
theorem d_D_put_2 : decode b_D_put 2 = .ok (.iload_n 2, 1) := by decide +kernel
theorem d_D_put_3 : decode b_D_put 3 = .ok (.iload_n 3, 1) := by decide +kernel
theorem d_D_put_4 : decode b_D_put 4 = .ok (.invokevirtual 31, 3) := by decide +kernel
theorem d_D_put_7 : decode b_D_put 7 = .ok (.lload 4, 2) := by decide +kernel
theorem d_D_put_9 : decode b_D_put 9 = .ok (.invokestatic 35, 3) := by decide +kernel
theorem d_D_put_12 : decode b_D_put 12 = .ok (.aload_n 0, 1) := by decide +kernel
theorem d_D_put_13 : decode b_D_put 13 = .ok (.getfield 11, 3) := by decide +kernel
theorem d_D_put_16 : decode b_D_put 16 = .ok (.iload_n 1, 1) := by decide +kernel
theorem d_D_put_17 : decode b_D_put 17 = .ok (.aaload, 1) := by decide +kernel
theorem d_D_put_18 : decode b_D_put 18 = .ok (.iload_n 2, 1) := by decide +kernel
theorem d_D_put_19 : decode b_D_put 19 = .ok (.iload_n 3, 1) := by decide +kernel
theorem d_D_put_20 : decode b_D_put 20 = .ok (.lload 4, 2) := by decide +kernel
theorem d_D_put_22 : decode b_D_put 22 = .ok (.invokevirtual 39, 3) := by decide +kernel
theorem d_D_put_25 : decode b_D_put 25 = .ok (.return_, 1) := by decide +kernel
theorem d_D_drop_0 : decode b_D_drop 0 = .ok (.aload_n 0, 1) := by decide +kernel
theorem d_D_drop_1 : decode b_D_drop 1 = .ok (.iload_n 1, 1) := by decide +kernel
theorem d_D_drop_2 : decode b_D_drop 2 = .ok (.iload_n 2, 1) := by decide +kernel
theorem d_D_drop_3 : decode b_D_drop 3 = .ok (.iload_n 3, 1) := by decide +kernel
theorem d_D_drop_4 : decode b_D_drop 4 = .ok (.invokevirtual 31, 3) := by decide +kernel
theorem d_D_drop_7 : decode b_D_drop 7 = .ok (.aload_n 0, 1) := by decide +kernel
theorem d_D_drop_8 : decode b_D_drop 8 = .ok (.getfield 11, 3) := by decide +kernel
theorem d_D_drop_11 : decode b_D_drop 11 = .ok (.iload_n 1, 1) := by decide +kernel
theorem d_D_drop_12 : decode b_D_drop 12 = .ok (.aaload, 1) := by decide +kernel
theorem d_D_drop_13 : decode b_D_drop 13 = .ok (.iload_n 2, 1) := by decide +kernel
theorem d_D_drop_14 : decode b_D_drop 14 = .ok (.iload_n 3, 1) := by decide +kernel
theorem d_D_drop_15 : decode b_D_drop 15 = .ok (.invokevirtual 43, 3) := by decide +kernel
theorem d_D_drop_18 : decode b_D_drop 18 = .ok (.istore 4, 2) := by decide +kernel
theorem d_D_drop_20 : decode b_D_drop 20 = .ok (.aload_n 0, 1) := by decide +kernel
theorem d_D_drop_21 : decode b_D_drop 21 = .ok (.getfield 11, 3) := by decide +kernel
theorem d_D_drop_24 : decode b_D_drop 24 = .ok (.iload_n 1, 1) := by decide +kernel
theorem d_D_drop_25 : decode b_D_drop 25 = .ok (.aaload, 1) := by decide +kernel
theorem d_D_drop_26 : decode b_D_drop 26 = .ok (.iload_n 2, 1) := by decide +kernel
theorem d_D_drop_27 : decode b_D_drop 27 = .ok (.iload_n 3, 1) := by decide +kernel
theorem d_D_drop_28 : decode b_D_drop 28 = .ok (.invokevirtual 47, 3) := by decide +kernel
theorem d_D_drop_31 : decode b_D_drop 31 = .ok (.iload 4, 2) := by decide +kernel
theorem d_D_drop_33 : decode b_D_drop 33 = .ok (.ireturn, 1) := by decide +kernel
theorem d_D_at_0 : decode b_D_at 0 = .ok (.aload_n 0, 1) := by decide +kernel
theorem d_D_at_1 : decode b_D_at 1 = .ok (.iload_n 1, 1) := by decide +kernel
theorem d_D_at_2 : decode b_D_at 2 = .ok (.iload_n 2, 1) := by decide +kernel
theorem d_D_at_3 : decode b_D_at 3 = .ok (.iload_n 3, 1) := by decide +kernel
theorem d_D_at_4 : decode b_D_at 4 = .ok (.invokevirtual 31, 3) := by decide +kernel
theorem d_D_at_7 : decode b_D_at 7 = .ok (.aload_n 0, 1) := by decide +kernel
theorem d_D_at_8 : decode b_D_at 8 = .ok (.getfield 11, 3) := by decide +kernel
theorem d_D_at_11 : decode b_D_at 11 = .ok (.iload_n 1, 1) := by decide +kernel
theorem d_D_at_12 : decode b_D_at 12 = .ok (.aaload, 1) := by decide +kernel
theorem d_D_at_13 : decode b_D_at 13 = .ok (.iload_n 2, 1) := by decide +kernel
theorem d_D_at_14 : decode b_D_at 14 = .ok (.iload_n 3, 1) := by decide +kernel
theorem d_D_at_15 : decode b_D_at 15 = .ok (.invokevirtual 43, 3) := by decide +kernel
theorem d_D_at_18 : decode b_D_at 18 = .ok (.invokestatic 50, 3) := by decide +kernel
theorem d_D_at_21 : decode b_D_at 21 = .ok (.aload_n 0, 1) := by decide +kernel
theorem d_D_at_22 : decode b_D_at 22 = .ok (.getfield 11, 3) := by decide +kernel
theorem d_D_at_25 : decode b_D_at 25 = .ok (.iload_n 1, 1) := by decide +kernel
theorem d_D_at_26 : decode b_D_at 26 = .ok (.aaload, 1) := by decide +kernel
theorem d_D_at_27 : decode b_D_at 27 = .ok (.iload_n 2, 1) := by decide +kernel
theorem d_D_at_28 : decode b_D_at 28 = .ok (.iload_n 3, 1) := by decide +kernel
theorem d_D_at_29 : decode b_D_at 29 = .ok (.invokevirtual 54, 3) := by decide +kernel
theorem d_D_at_32 : decode b_D_at 32 = .ok (.lreturn, 1) := by decide +kernel
theorem d_D_size_0 : decode b_D_size 0 = .ok (.iload_n 1, 1) := by decide +kernel
theorem d_D_size_1 : decode b_D_size 1 = .ok (.invokestatic 20, 3) := by decide +kernel
theorem d_D_size_4 : decode b_D_size 4 = .ok (.aload_n 0, 1) := by decide +kernel
theorem d_D_size_5 : decode b_D_size 5 = .ok (.getfield 11, 3) := by decide +kernel
theorem d_D_size_8 : decode b_D_size 8 = .ok (.iload_n 1, 1) := by decide +kernel
theorem d_D_size_9 : decode b_D_size 9 = .ok (.aaload, 1) := by decide +kernel
theorem d_D_size_10 : decode b_D_size 10 = .ok (.astore_n 2, 1) := by decide +kernel
theorem d_D_size_11 : decode b_D_size 11 = .ok (.aload_n 2, 1) := by decide +kernel
theorem d_D_size_12 : decode b_D_size 12 = .ok (.getfield 58, 3) := by decide +kernel
theorem d_D_size_15 : decode b_D_size 15 = .ok (.bipush 16, 2) := by decide +kernel
theorem d_D_size_17 : decode b_D_size 17 = .ok (.aload_n 2, 1) := by decide +kernel
theorem d_D_size_18 : decode b_D_size 18 = .ok (.getfield 62, 3) := by decide +kernel
theorem d_D_size_21 : decode b_D_size 21 = .ok (.imul, 1) := by decide +kernel
theorem d_D_size_22 : decode b_D_size 22 = .ok (.iadd, 1) := by decide +kernel
theorem d_D_size_23 : decode b_D_size 23 = .ok (.sipush 256, 3) := by decide +kernel
theorem d_D_size_26 : decode b_D_size 26 = .ok (.aload_n 2, 1) := by decide +kernel
theorem d_D_size_27 : decode b_D_size 27 = .ok (.invokevirtual 65, 3) := by decide +kernel
theorem d_D_size_30 : decode b_D_size 30 = .ok (.imul, 1) := by decide +kernel
theorem d_D_size_31 : decode b_D_size 31 = .ok (.iadd, 1) := by decide +kernel
theorem d_D_size_32 : decode b_D_size 32 = .ok (.ireturn, 1) := by decide +kernel
theorem d_D_multiply_0 : decode b_D_multiply 0 = .ok (.iload_n 1, 1) := by decide +kernel
theorem d_D_multiply_1 : decode b_D_multiply 1 = .ok (.iload_n 2, 1) := by decide +kernel
theorem d_D_multiply_2 : decode b_D_multiply 2 = .ok (.iload_n 3, 1) := by decide +kernel
theorem d_D_multiply_3 : decode b_D_multiply 3 = .ok (.iload 4, 2) := by decide +kernel
theorem d_D_multiply_5 : decode b_D_multiply 5 = .ok (.invokestatic 69, 3) := by decide +kernel
theorem d_D_multiply_8 : decode b_D_multiply 8 = .ok (.iload 5, 2) := by decide +kernel
theorem d_D_multiply_10 : decode b_D_multiply 10 = .ok (.invokestatic 73, 3) := by decide +kernel
theorem d_D_multiply_13 : decode b_D_multiply 13 = .ok (.iload 6, 2) := by decide +kernel
theorem d_D_multiply_15 : decode b_D_multiply 15 = .ok (.iconst 3, 1) := by decide +kernel
theorem d_D_multiply_16 : decode b_D_multiply 16 = .ok (.invokestatic 76, 3) := by decide +kernel
theorem d_D_multiply_19 : decode b_D_multiply 19 = .ok (.aload_n 0, 1) := by decide +kernel
theorem d_D_multiply_20 : decode b_D_multiply 20 = .ok (.getfield 11, 3) := by decide +kernel
theorem d_D_multiply_23 : decode b_D_multiply 23 = .ok (.iload_n 2, 1) := by decide +kernel
theorem d_D_multiply_24 : decode b_D_multiply 24 = .ok (.aaload, 1) := by decide +kernel
theorem d_D_multiply_25 : decode b_D_multiply 25 = .ok (.astore 7, 2) := by decide +kernel
theorem d_D_multiply_27 : decode b_D_multiply 27 = .ok (.aload_n 0, 1) := by decide +kernel
theorem d_D_multiply_28 : decode b_D_multiply 28 = .ok (.getfield 11, 3) := by decide +kernel
theorem d_D_multiply_31 : decode b_D_multiply 31 = .ok (.iload_n 3, 1) := by decide +kernel
theorem d_D_multiply_32 : decode b_D_multiply 32 = .ok (.aaload, 1) := by decide +kernel
theorem d_D_multiply_33 : decode b_D_multiply 33 = .ok (.astore 8, 2) := by decide +kernel
theorem d_D_multiply_35 : decode b_D_multiply 35 = .ok (.aload 7, 2) := by decide +kernel
theorem d_D_multiply_37 : decode b_D_multiply 37 = .ok (.getfield 62, 3) := by decide +kernel
theorem d_D_multiply_40 : decode b_D_multiply 40 = .ok (.aload 8, 2) := by decide +kernel
theorem d_D_multiply_42 : decode b_D_multiply 42 = .ok (.getfield 58, 3) := by decide +kernel
theorem d_D_multiply_45 : decode b_D_multiply 45 = .ok (.if_icmp .ne 7, 3) := by decide +kernel
theorem d_D_multiply_48 : decode b_D_multiply 48 = .ok (.iconst 1, 1) := by decide +kernel
theorem d_D_multiply_49 : decode b_D_multiply 49 = .ok (.goto 4, 3) := by decide +kernel
theorem d_D_multiply_52 : decode b_D_multiply 52 = .ok (.iconst 0, 1) := by decide +kernel
theorem d_D_multiply_53 : decode b_D_multiply 53 = .ok (.invokestatic 79, 3) := by decide +kernel
theorem d_D_multiply_56 : decode b_D_multiply 56 = .ok (.iload 5, 2) := by decide +kernel
theorem d_D_multiply_58 : decode b_D_multiply 58 = .ok (.iconst (-1), 1) := by decide +kernel
theorem d_D_multiply_59 : decode b_D_multiply 59 = .ok (.if_icmp .eq 26, 3) := by decide +kernel
theorem d_D_multiply_62 : decode b_D_multiply 62 = .ok (.aload_n 0, 1) := by decide +kernel
theorem d_D_multiply_63 : decode b_D_multiply 63 = .ok (.getfield 11, 3) := by decide +kernel
theorem d_D_multiply_66 : decode b_D_multiply 66 = .ok (.iload 5, 2) := by decide +kernel
theorem d_D_multiply_68 : decode b_D_multiply 68 = .ok (.aaload, 1) := by decide +kernel
theorem d_D_multiply_69 : decode b_D_multiply 69 = .ok (.aload 7, 2) := by decide +kernel
theorem d_D_multiply_71 : decode b_D_multiply 71 = .ok (.getfield 58, 3) := by decide +kernel
theorem d_D_multiply_74 : decode b_D_multiply 74 = .ok (.aload 8, 2) := by decide +kernel
theorem d_D_multiply_76 : decode b_D_multiply 76 = .ok (.getfield 62, 3) := by decide +kernel
theorem d_D_multiply_79 : decode b_D_multiply 79 = .ok (.invokevirtual 82, 3) := by decide +kernel
theorem d_D_multiply_82 : decode b_D_multiply 82 = .ok (.ifCond .eq 7, 3) := by decide +kernel
theorem d_D_multiply_85 : decode b_D_multiply 85 = .ok (.iconst 1, 1) := by decide +kernel
theorem d_D_multiply_86 : decode b_D_multiply 86 = .ok (.goto 4, 3) := by decide +kernel
theorem d_D_multiply_89 : decode b_D_multiply 89 = .ok (.iconst 0, 1) := by decide +kernel
theorem d_D_multiply_90 : decode b_D_multiply 90 = .ok (.invokestatic 79, 3) := by decide +kernel
theorem d_D_multiply_93 : decode b_D_multiply 93 = .ok (.iload 6, 2) := by decide +kernel
theorem d_D_multiply_95 : decode b_D_multiply 95 = .ok (.iconst 2, 1) := by decide +kernel
theorem d_D_multiply_96 : decode b_D_multiply 96 = .ok (.iand, 1) := by decide +kernel
theorem d_D_multiply_97 : decode b_D_multiply 97 = .ok (.ifCond .eq 7, 3) := by decide +kernel
theorem d_D_multiply_100 : decode b_D_multiply 100 = .ok (.iconst 1, 1) := by decide +kernel
theorem d_D_multiply_101 : decode b_D_multiply 101 = .ok (.goto 4, 3) := by decide +kernel
theorem d_D_multiply_104 : decode b_D_multiply 104 = .ok (.iconst 0, 1) := by decide +kernel
theorem d_D_multiply_105 : decode b_D_multiply 105 = .ok (.istore 9, 2) := by decide +kernel
theorem d_D_multiply_107 : decode b_D_multiply 107 = .ok (.iload 9, 2) := by decide +kernel
theorem d_D_multiply_109 : decode b_D_multiply 109 = .ok (.ifCond .eq 25, 3) := by decide +kernel
theorem d_D_multiply_112 : decode b_D_multiply 112 = .ok (.aload_n 0, 1) := by decide +kernel
theorem d_D_multiply_113 : decode b_D_multiply 113 = .ok (.getfield 11, 3) := by decide +kernel
theorem d_D_multiply_116 : decode b_D_multiply 116 = .ok (.iload_n 1, 1) := by decide +kernel
theorem d_D_multiply_117 : decode b_D_multiply 117 = .ok (.aaload, 1) := by decide +kernel
theorem d_D_multiply_118 : decode b_D_multiply 118 = .ok (.aload 7, 2) := by decide +kernel
theorem d_D_multiply_120 : decode b_D_multiply 120 = .ok (.getfield 58, 3) := by decide +kernel
theorem d_D_multiply_123 : decode b_D_multiply 123 = .ok (.aload 8, 2) := by decide +kernel
theorem d_D_multiply_125 : decode b_D_multiply 125 = .ok (.getfield 62, 3) := by decide +kernel
theorem d_D_multiply_128 : decode b_D_multiply 128 = .ok (.invokevirtual 82, 3) := by decide +kernel
theorem d_D_multiply_131 : decode b_D_multiply 131 = .ok (.ifCond .eq 7, 3) := by decide +kernel
theorem d_D_multiply_134 : decode b_D_multiply 134 = .ok (.iconst 1, 1) := by decide +kernel
theorem d_D_multiply_135 : decode b_D_multiply 135 = .ok (.goto 4, 3) := by decide +kernel
theorem d_D_multiply_138 : decode b_D_multiply 138 = .ok (.iconst 0, 1) := by decide +kernel
theorem d_D_multiply_139 : decode b_D_multiply 139 = .ok (.invokestatic 79, 3) := by decide +kernel
theorem d_D_multiply_142 : decode b_D_multiply 142 = .ok (.aload_n 0, 1) := by decide +kernel
theorem d_D_multiply_143 : decode b_D_multiply 143 = .ok (.aload 7, 2) := by decide +kernel
theorem d_D_multiply_145 : decode b_D_multiply 145 = .ok (.getfield 58, 3) := by decide +kernel
theorem d_D_multiply_148 : decode b_D_multiply 148 = .ok (.aload 8, 2) := by decide +kernel
theorem d_D_multiply_150 : decode b_D_multiply 150 = .ok (.getfield 62, 3) := by decide +kernel
theorem d_D_multiply_153 : decode b_D_multiply 153 = .ok (.invokevirtual 85, 3) := by decide +kernel
theorem d_D_multiply_156 : decode b_D_multiply 156 = .ok (.astore 10, 2) := by decide +kernel
theorem d_D_multiply_158 : decode b_D_multiply 158 = .ok (.iload 6, 2) := by decide +kernel
theorem d_D_multiply_160 : decode b_D_multiply 160 = .ok (.iconst 1, 1) := by decide +kernel
theorem d_D_multiply_161 : decode b_D_multiply 161 = .ok (.iand, 1) := by decide +kernel
theorem d_D_multiply_162 : decode b_D_multiply 162 = .ok (.ifCond .eq 7, 3) := by decide +kernel
theorem d_D_multiply_165 : decode b_D_multiply 165 = .ok (.iconst 1, 1) := by decide +kernel
theorem d_D_multiply_166 : decode b_D_multiply 166 = .ok (.goto 4, 3) := by decide +kernel
theorem d_D_multiply_169 : decode b_D_multiply 169 = .ok (.iconst 0, 1) := by decide +kernel
theorem d_D_multiply_170 : decode b_D_multiply 170 = .ok (.istore 11, 2) := by decide +kernel
theorem d_D_multiply_172 : decode b_D_multiply 172 = .ok (.iconst 0, 1) := by decide +kernel
theorem d_D_multiply_173 : decode b_D_multiply 173 = .ok (.istore 12, 2) := by decide +kernel
theorem d_D_multiply_175 : decode b_D_multiply 175 = .ok (.iload 12, 2) := by decide +kernel
theorem d_D_multiply_177 : decode b_D_multiply 177 = .ok (.aload 10, 2) := by decide +kernel
theorem d_D_multiply_179 : decode b_D_multiply 179 = .ok (.getfield 58, 3) := by decide +kernel
theorem d_D_multiply_182 : decode b_D_multiply 182 = .ok (.if_icmp .ge 68, 3) := by decide +kernel
theorem d_D_multiply_185 : decode b_D_multiply 185 = .ok (.iconst 0, 1) := by decide +kernel
theorem d_D_multiply_186 : decode b_D_multiply 186 = .ok (.istore 13, 2) := by decide +kernel
theorem d_D_multiply_188 : decode b_D_multiply 188 = .ok (.iload 13, 2) := by decide +kernel
theorem d_D_multiply_190 : decode b_D_multiply 190 = .ok (.aload 10, 2) := by decide +kernel
theorem d_D_multiply_192 : decode b_D_multiply 192 = .ok (.getfield 62, 3) := by decide +kernel
theorem d_D_multiply_195 : decode b_D_multiply 195 = .ok (.if_icmp .ge 49, 3) := by decide +kernel
theorem d_D_multiply_198 : decode b_D_multiply 198 = .ok (.iload 5, 2) := by decide +kernel
theorem d_D_multiply_200 : decode b_D_multiply 200 = .ok (.iconst (-1), 1) := by decide +kernel
theorem d_D_multiply_201 : decode b_D_multiply 201 = .ok (.if_icmp .eq 22, 3) := by decide +kernel
theorem d_D_multiply_204 : decode b_D_multiply 204 = .ok (.aload_n 0, 1) := by decide +kernel
theorem d_D_multiply_205 : decode b_D_multiply 205 = .ok (.getfield 11, 3) := by decide +kernel
theorem d_D_multiply_208 : decode b_D_multiply 208 = .ok (.iload 5, 2) := by decide +kernel
theorem d_D_multiply_210 : decode b_D_multiply 210 = .ok (.aaload, 1) := by decide +kernel
theorem d_D_multiply_211 : decode b_D_multiply 211 = .ok (.iload 12, 2) := by decide +kernel
theorem d_D_multiply_213 : decode b_D_multiply 213 = .ok (.iload 13, 2) := by decide +kernel
theorem d_D_multiply_215 : decode b_D_multiply 215 = .ok (.invokevirtual 43, 3) := by decide +kernel
theorem d_D_multiply_218 : decode b_D_multiply 218 = .ok (.iload 11, 2) := by decide +kernel
theorem d_D_multiply_220 : decode b_D_multiply 220 = .ok (.if_icmp .eq 18, 3) := by decide +kernel
theorem d_D_multiply_223 : decode b_D_multiply 223 = .ok (.aload 10, 2) := by decide +kernel
theorem d_D_multiply_225 : decode b_D_multiply 225 = .ok (.aload 7, 2) := by decide +kernel
theorem d_D_multiply_227 : decode b_D_multiply 227 = .ok (.aload 8, 2) := by decide +kernel
theorem d_D_multiply_229 : decode b_D_multiply 229 = .ok (.iload 12, 2) := by decide +kernel
theorem d_D_multiply_231 : decode b_D_multiply 231 = .ok (.iload 13, 2) := by decide +kernel
theorem d_D_multiply_233 : decode b_D_multiply 233 = .ok (.iload 4, 2) := by decide +kernel
theorem d_D_multiply_235 : decode b_D_multiply 235 = .ok (.invokestatic 89, 3) := by decide +kernel
theorem d_D_multiply_238 : decode b_D_multiply 238 = .ok (.iinc 13 1, 3) := by decide +kernel
theorem d_D_multiply_241 : decode b_D_multiply 241 = .ok (.goto (-53), 3) := by decide +kernel
theorem d_D_multiply_244 : decode b_D_multiply 244 = .ok (.iinc 12 1, 3) := by decide +kernel
theorem d_D_multiply_247 : decode b_D_multiply 247 = .ok (.goto (-72), 3) := by decide +kernel
theorem d_D_multiply_250 : decode b_D_multiply 250 = .ok (.iload 9, 2) := by decide +kernel
theorem d_D_multiply_252 : decode b_D_multiply 252 = .ok (.ifCond .eq 16, 3) := by decide +kernel
theorem d_D_multiply_255 : decode b_D_multiply 255 = .ok (.aload 10, 2) := by decide +kernel
theorem d_D_multiply_257 : decode b_D_multiply 257 = .ok (.aload_n 0, 1) := by decide +kernel
theorem d_D_multiply_258 : decode b_D_multiply 258 = .ok (.getfield 11, 3) := by decide +kernel
theorem d_D_multiply_261 : decode b_D_multiply 261 = .ok (.iload_n 1, 1) := by decide +kernel
theorem d_D_multiply_262 : decode b_D_multiply 262 = .ok (.aaload, 1) := by decide +kernel
theorem d_D_multiply_263 : decode b_D_multiply 263 = .ok (.iload 4, 2) := by decide +kernel
theorem d_D_multiply_265 : decode b_D_multiply 265 = .ok (.invokestatic 93, 3) := by decide +kernel
theorem d_D_multiply_268 : decode b_D_multiply 268 = .ok (.aload 10, 2) := by decide +kernel
theorem d_D_multiply_270 : decode b_D_multiply 270 = .ok (.iload 4, 2) := by decide +kernel
theorem d_D_multiply_272 : decode b_D_multiply 272 = .ok (.invokestatic 97, 3) := by decide +kernel
theorem d_D_multiply_275 : decode b_D_multiply 275 = .ok (.aload_n 0, 1) := by decide +kernel
theorem d_D_multiply_276 : decode b_D_multiply 276 = .ok (.iload_n 1, 1) := by decide +kernel
theorem d_D_multiply_277 : decode b_D_multiply 277 = .ok (.invokevirtual 101, 3) := by decide +kernel
theorem d_D_multiply_280 : decode b_D_multiply 280 = .ok (.ireturn, 1) := by decide +kernel
theorem d_D_add_0 : decode b_D_add 0 = .ok (.iload_n 1, 1) := by decide +kernel
theorem d_D_add_1 : decode b_D_add 1 = .ok (.iload_n 2, 1) := by decide +kernel
theorem d_D_add_2 : decode b_D_add 2 = .ok (.iload_n 3, 1) := by decide +kernel
theorem d_D_add_3 : decode b_D_add 3 = .ok (.iload 4, 2) := by decide +kernel
theorem d_D_add_5 : decode b_D_add 5 = .ok (.invokestatic 69, 3) := by decide +kernel
theorem d_D_add_8 : decode b_D_add 8 = .ok (.aload_n 0, 1) := by decide +kernel
theorem d_D_add_9 : decode b_D_add 9 = .ok (.iload_n 2, 1) := by decide +kernel
theorem d_D_add_10 : decode b_D_add 10 = .ok (.iload_n 3, 1) := by decide +kernel
theorem d_D_add_11 : decode b_D_add 11 = .ok (.invokevirtual 105, 3) := by decide +kernel
theorem d_D_add_14 : decode b_D_add 14 = .ok (.aload_n 0, 1) := by decide +kernel
theorem d_D_add_15 : decode b_D_add 15 = .ok (.aload_n 0, 1) := by decide +kernel
theorem d_D_add_16 : decode b_D_add 16 = .ok (.getfield 11, 3) := by decide +kernel
theorem d_D_add_19 : decode b_D_add 19 = .ok (.iload_n 2, 1) := by decide +kernel
theorem d_D_add_20 : decode b_D_add 20 = .ok (.aaload, 1) := by decide +kernel
theorem d_D_add_21 : decode b_D_add 21 = .ok (.getfield 58, 3) := by decide +kernel
theorem d_D_add_24 : decode b_D_add 24 = .ok (.aload_n 0, 1) := by decide +kernel
theorem d_D_add_25 : decode b_D_add 25 = .ok (.getfield 11, 3) := by decide +kernel
theorem d_D_add_28 : decode b_D_add 28 = .ok (.iload_n 2, 1) := by decide +kernel
theorem d_D_add_29 : decode b_D_add 29 = .ok (.aaload, 1) := by decide +kernel
theorem d_D_add_30 : decode b_D_add 30 = .ok (.getfield 62, 3) := by decide +kernel
theorem d_D_add_33 : decode b_D_add 33 = .ok (.invokevirtual 85, 3) := by decide +kernel
theorem d_D_add_36 : decode b_D_add 36 = .ok (.astore 5, 2) := by decide +kernel
theorem d_D_add_38 : decode b_D_add 38 = .ok (.aload 5, 2) := by decide +kernel
theorem d_D_add_40 : decode b_D_add 40 = .ok (.aload_n 0, 1) := by decide +kernel
theorem d_D_add_41 : decode b_D_add 41 = .ok (.getfield 11, 3) := by decide +kernel
theorem d_D_add_44 : decode b_D_add 44 = .ok (.iload_n 2, 1) := by decide +kernel
theorem d_D_add_45 : decode b_D_add 45 = .ok (.aaload, 1) := by decide +kernel
theorem d_D_add_46 : decode b_D_add 46 = .ok (.iload 4, 2) := by decide +kernel
theorem d_D_add_48 : decode b_D_add 48 = .ok (.invokestatic 93, 3) := by decide +kernel
theorem d_D_add_51 : decode b_D_add 51 = .ok (.aload 5, 2) := by decide +kernel
theorem d_D_add_53 : decode b_D_add 53 = .ok (.aload_n 0, 1) := by decide +kernel
theorem d_D_add_54 : decode b_D_add 54 = .ok (.getfield 11, 3) := by decide +kernel
theorem d_D_add_57 : decode b_D_add 57 = .ok (.iload_n 3, 1) := by decide +kernel
theorem d_D_add_58 : decode b_D_add 58 = .ok (.aaload, 1) := by decide +kernel
theorem d_D_add_59 : decode b_D_add 59 = .ok (.iload 4, 2) := by decide +kernel
theorem d_D_add_61 : decode b_D_add 61 = .ok (.invokestatic 93, 3) := by decide +kernel
theorem d_D_add_64 : decode b_D_add 64 = .ok (.aload 5, 2) := by decide +kernel
theorem d_D_add_66 : decode b_D_add 66 = .ok (.iload 4, 2) := by decide +kernel
theorem d_D_add_68 : decode b_D_add 68 = .ok (.invokestatic 97, 3) := by decide +kernel
theorem d_D_add_71 : decode b_D_add 71 = .ok (.aload_n 0, 1) := by decide +kernel
theorem d_D_add_72 : decode b_D_add 72 = .ok (.iload_n 1, 1) := by decide +kernel
theorem d_D_add_73 : decode b_D_add 73 = .ok (.invokevirtual 101, 3) := by decide +kernel
theorem d_D_add_76 : decode b_D_add 76 = .ok (.ireturn, 1) := by decide +kernel
theorem d_D_each_0 : decode b_D_each 0 = .ok (.iload_n 1, 1) := by decide +kernel
theorem d_D_each_1 : decode b_D_each 1 = .ok (.iload_n 2, 1) := by decide +kernel
theorem d_D_each_2 : decode b_D_each 2 = .ok (.iload_n 3, 1) := by decide +kernel
theorem d_D_each_3 : decode b_D_each 3 = .ok (.iload 4, 2) := by decide +kernel
theorem d_D_each_5 : decode b_D_each 5 = .ok (.invokestatic 69, 3) := by decide +kernel
theorem d_D_each_8 : decode b_D_each 8 = .ok (.aload_n 0, 1) := by decide +kernel
theorem d_D_each_9 : decode b_D_each 9 = .ok (.iload_n 2, 1) := by decide +kernel
theorem d_D_each_10 : decode b_D_each 10 = .ok (.iload_n 3, 1) := by decide +kernel
theorem d_D_each_11 : decode b_D_each 11 = .ok (.invokevirtual 105, 3) := by decide +kernel
theorem d_D_each_14 : decode b_D_each 14 = .ok (.aload_n 0, 1) := by decide +kernel
theorem d_D_each_15 : decode b_D_each 15 = .ok (.getfield 11, 3) := by decide +kernel
theorem d_D_each_18 : decode b_D_each 18 = .ok (.iload_n 2, 1) := by decide +kernel
theorem d_D_each_19 : decode b_D_each 19 = .ok (.aaload, 1) := by decide +kernel
theorem d_D_each_20 : decode b_D_each 20 = .ok (.astore 5, 2) := by decide +kernel
theorem d_D_each_22 : decode b_D_each 22 = .ok (.aload_n 0, 1) := by decide +kernel
theorem d_D_each_23 : decode b_D_each 23 = .ok (.getfield 11, 3) := by decide +kernel
theorem d_D_each_26 : decode b_D_each 26 = .ok (.iload_n 3, 1) := by decide +kernel
theorem d_D_each_27 : decode b_D_each 27 = .ok (.aaload, 1) := by decide +kernel
theorem d_D_each_28 : decode b_D_each 28 = .ok (.astore 6, 2) := by decide +kernel
theorem d_D_each_30 : decode b_D_each 30 = .ok (.aload_n 0, 1) := by decide +kernel
theorem d_D_each_31 : decode b_D_each 31 = .ok (.aload 5, 2) := by decide +kernel
theorem d_D_each_33 : decode b_D_each 33 = .ok (.getfield 58, 3) := by decide +kernel
theorem d_D_each_36 : decode b_D_each 36 = .ok (.aload 5, 2) := by decide +kernel
theorem d_D_each_38 : decode b_D_each 38 = .ok (.getfield 62, 3) := by decide +kernel
theorem d_D_each_41 : decode b_D_each 41 = .ok (.invokevirtual 85, 3) := by decide +kernel
theorem d_D_each_44 : decode b_D_each 44 = .ok (.astore 7, 2) := by decide +kernel
theorem d_D_each_46 : decode b_D_each 46 = .ok (.iconst 0, 1) := by decide +kernel
theorem d_D_each_47 : decode b_D_each 47 = .ok (.istore 8, 2) := by decide +kernel
theorem d_D_each_49 : decode b_D_each 49 = .ok (.iload 8, 2) := by decide +kernel
theorem d_D_each_51 : decode b_D_each 51 = .ok (.aload 7, 2) := by decide +kernel
theorem d_D_each_53 : decode b_D_each 53 = .ok (.getfield 58, 3) := by decide +kernel
theorem d_D_each_56 : decode b_D_each 56 = .ok (.if_icmp .ge 84, 3) := by decide +kernel
theorem d_D_each_59 : decode b_D_each 59 = .ok (.iconst 0, 1) := by decide +kernel
theorem d_D_each_60 : decode b_D_each 60 = .ok (.istore 9, 2) := by decide +kernel
theorem d_D_each_62 : decode b_D_each 62 = .ok (.iload 9, 2) := by decide +kernel
theorem d_D_each_64 : decode b_D_each 64 = .ok (.aload 7, 2) := by decide +kernel
theorem d_D_each_66 : decode b_D_each 66 = .ok (.getfield 62, 3) := by decide +kernel
theorem d_D_each_69 : decode b_D_each 69 = .ok (.if_icmp .ge 65, 3) := by decide +kernel
theorem d_D_each_72 : decode b_D_each 72 = .ok (.aload 5, 2) := by decide +kernel
theorem d_D_each_74 : decode b_D_each 74 = .ok (.iload 8, 2) := by decide +kernel
theorem d_D_each_76 : decode b_D_each 76 = .ok (.iload 9, 2) := by decide +kernel
theorem d_D_each_78 : decode b_D_each 78 = .ok (.invokevirtual 43, 3) := by decide +kernel
theorem d_D_each_81 : decode b_D_each 81 = .ok (.ifCond .eq 47, 3) := by decide +kernel
theorem d_D_each_84 : decode b_D_each 84 = .ok (.aload 6, 2) := by decide +kernel
theorem d_D_each_86 : decode b_D_each 86 = .ok (.iload 8, 2) := by decide +kernel
theorem d_D_each_88 : decode b_D_each 88 = .ok (.iload 9, 2) := by decide +kernel
theorem d_D_each_90 : decode b_D_each 90 = .ok (.invokevirtual 43, 3) := by decide +kernel
theorem d_D_each_93 : decode b_D_each 93 = .ok (.ifCond .eq 35, 3) := by decide +kernel
theorem d_D_each_96 : decode b_D_each 96 = .ok (.aload 7, 2) := by decide +kernel
theorem d_D_each_98 : decode b_D_each 98 = .ok (.iload 8, 2) := by decide +kernel
theorem d_D_each_100 : decode b_D_each 100 = .ok (.iload 9, 2) := by decide +kernel
theorem d_D_each_102 : decode b_D_each 102 = .ok (.iload 4, 2) := by decide +kernel
theorem d_D_each_104 : decode b_D_each 104 = .ok (.aload 5, 2) := by decide +kernel
theorem d_D_each_106 : decode b_D_each 106 = .ok (.iload 8, 2) := by decide +kernel
theorem d_D_each_108 : decode b_D_each 108 = .ok (.iload 9, 2) := by decide +kernel
theorem d_D_each_110 : decode b_D_each 110 = .ok (.invokevirtual 54, 3) := by decide +kernel
theorem d_D_each_113 : decode b_D_each 113 = .ok (.aload 6, 2) := by decide +kernel
theorem d_D_each_115 : decode b_D_each 115 = .ok (.iload 8, 2) := by decide +kernel
theorem d_D_each_117 : decode b_D_each 117 = .ok (.iload 9, 2) := by decide +kernel
theorem d_D_each_119 : decode b_D_each 119 = .ok (.invokevirtual 54, 3) := by decide +kernel
theorem d_D_each_122 : decode b_D_each 122 = .ok (.invokestatic 108, 3) := by decide +kernel
theorem d_D_each_125 : decode b_D_each 125 = .ok (.invokevirtual 39, 3) := by decide +kernel
theorem d_D_each_128 : decode b_D_each 128 = .ok (.iinc 9 1, 3) := by decide +kernel
theorem d_D_each_131 : decode b_D_each 131 = .ok (.goto (-69), 3) := by decide +kernel
theorem d_D_each_134 : decode b_D_each 134 = .ok (.iinc 8 1, 3) := by decide +kernel
theorem d_D_each_137 : decode b_D_each 137 = .ok (.goto (-88), 3) := by decide +kernel
theorem d_D_each_140 : decode b_D_each 140 = .ok (.aload 7, 2) := by decide +kernel
theorem d_D_each_142 : decode b_D_each 142 = .ok (.iload 4, 2) := by decide +kernel
theorem d_D_each_144 : decode b_D_each 144 = .ok (.invokestatic 97, 3) := by decide +kernel
theorem d_D_each_147 : decode b_D_each 147 = .ok (.aload_n 0, 1) := by decide +kernel
theorem d_D_each_148 : decode b_D_each 148 = .ok (.iload_n 1, 1) := by decide +kernel
theorem d_D_each_149 : decode b_D_each 149 = .ok (.invokevirtual 101, 3) := by decide +kernel
theorem d_D_each_152 : decode b_D_each 152 = .ok (.ireturn, 1) := by decide +kernel
theorem d_D_transpose_0 : decode b_D_transpose 0 = .ok (.iload_n 1, 1) := by decide +kernel
theorem d_D_transpose_1 : decode b_D_transpose 1 = .ok (.invokestatic 20, 3) := by decide +kernel
theorem d_D_transpose_4 : decode b_D_transpose 4 = .ok (.iload_n 2, 1) := by decide +kernel
theorem d_D_transpose_5 : decode b_D_transpose 5 = .ok (.invokestatic 20, 3) := by decide +kernel
theorem d_D_transpose_8 : decode b_D_transpose 8 = .ok (.aload_n 0, 1) := by decide +kernel
theorem d_D_transpose_9 : decode b_D_transpose 9 = .ok (.getfield 11, 3) := by decide +kernel
theorem d_D_transpose_12 : decode b_D_transpose 12 = .ok (.iload_n 2, 1) := by decide +kernel
theorem d_D_transpose_13 : decode b_D_transpose 13 = .ok (.aaload, 1) := by decide +kernel
theorem d_D_transpose_14 : decode b_D_transpose 14 = .ok (.astore_n 3, 1) := by decide +kernel
theorem d_D_transpose_15 : decode b_D_transpose 15 = .ok (.aload_n 0, 1) := by decide +kernel
theorem d_D_transpose_16 : decode b_D_transpose 16 = .ok (.aload_n 3, 1) := by decide +kernel
theorem d_D_transpose_17 : decode b_D_transpose 17 = .ok (.getfield 62, 3) := by decide +kernel
theorem d_D_transpose_20 : decode b_D_transpose 20 = .ok (.aload_n 3, 1) := by decide +kernel
theorem d_D_transpose_21 : decode b_D_transpose 21 = .ok (.getfield 58, 3) := by decide +kernel
theorem d_D_transpose_24 : decode b_D_transpose 24 = .ok (.invokevirtual 85, 3) := by decide +kernel
theorem d_D_transpose_27 : decode b_D_transpose 27 = .ok (.astore 4, 2) := by decide +kernel
theorem d_D_transpose_29 : decode b_D_transpose 29 = .ok (.iconst 0, 1) := by decide +kernel
theorem d_D_transpose_30 : decode b_D_transpose 30 = .ok (.istore 5, 2) := by decide +kernel
theorem d_D_transpose_32 : decode b_D_transpose 32 = .ok (.iload 5, 2) := by decide +kernel
theorem d_D_transpose_34 : decode b_D_transpose 34 = .ok (.aload_n 3, 1) := by decide +kernel
theorem d_D_transpose_35 : decode b_D_transpose 35 = .ok (.getfield 58, 3) := by decide +kernel
theorem d_D_transpose_38 : decode b_D_transpose 38 = .ok (.if_icmp .ge 55, 3) := by decide +kernel
theorem d_D_transpose_41 : decode b_D_transpose 41 = .ok (.iconst 0, 1) := by decide +kernel
theorem d_D_transpose_42 : decode b_D_transpose 42 = .ok (.istore 6, 2) := by decide +kernel
theorem d_D_transpose_44 : decode b_D_transpose 44 = .ok (.iload 6, 2) := by decide +kernel
theorem d_D_transpose_46 : decode b_D_transpose 46 = .ok (.aload_n 3, 1) := by decide +kernel
theorem d_D_transpose_47 : decode b_D_transpose 47 = .ok (.getfield 62, 3) := by decide +kernel
theorem d_D_transpose_50 : decode b_D_transpose 50 = .ok (.if_icmp .ge 37, 3) := by decide +kernel
theorem d_D_transpose_53 : decode b_D_transpose 53 = .ok (.aload_n 3, 1) := by decide +kernel
theorem d_D_transpose_54 : decode b_D_transpose 54 = .ok (.iload 5, 2) := by decide +kernel
theorem d_D_transpose_56 : decode b_D_transpose 56 = .ok (.iload 6, 2) := by decide +kernel
theorem d_D_transpose_58 : decode b_D_transpose 58 = .ok (.invokevirtual 43, 3) := by decide +kernel
theorem d_D_transpose_61 : decode b_D_transpose 61 = .ok (.ifCond .eq 20, 3) := by decide +kernel
theorem d_D_transpose_64 : decode b_D_transpose 64 = .ok (.aload 4, 2) := by decide +kernel
theorem d_D_transpose_66 : decode b_D_transpose 66 = .ok (.iload 6, 2) := by decide +kernel
theorem d_D_transpose_68 : decode b_D_transpose 68 = .ok (.iload 5, 2) := by decide +kernel
theorem d_D_transpose_70 : decode b_D_transpose 70 = .ok (.aload_n 3, 1) := by decide +kernel
theorem d_D_transpose_71 : decode b_D_transpose 71 = .ok (.iload 5, 2) := by decide +kernel
theorem d_D_transpose_73 : decode b_D_transpose 73 = .ok (.iload 6, 2) := by decide +kernel
theorem d_D_transpose_75 : decode b_D_transpose 75 = .ok (.invokevirtual 54, 3) := by decide +kernel
theorem d_D_transpose_78 : decode b_D_transpose 78 = .ok (.invokevirtual 39, 3) := by decide +kernel
theorem d_D_transpose_81 : decode b_D_transpose 81 = .ok (.iinc 6 1, 3) := by decide +kernel
theorem d_D_transpose_84 : decode b_D_transpose 84 = .ok (.goto (-40), 3) := by decide +kernel
theorem d_D_transpose_87 : decode b_D_transpose 87 = .ok (.iinc 5 1, 3) := by decide +kernel
theorem d_D_transpose_90 : decode b_D_transpose 90 = .ok (.goto (-58), 3) := by decide +kernel
theorem d_D_transpose_93 : decode b_D_transpose 93 = .ok (.aload_n 0, 1) := by decide +kernel
theorem d_D_transpose_94 : decode b_D_transpose 94 = .ok (.iload_n 1, 1) := by decide +kernel
theorem d_D_transpose_95 : decode b_D_transpose 95 = .ok (.invokevirtual 101, 3) := by decide +kernel
theorem d_D_transpose_98 : decode b_D_transpose 98 = .ok (.ireturn, 1) := by decide +kernel
theorem d_D_select_0 : decode b_D_select 0 = .ok (.iload_n 1, 1) := by decide +kernel
theorem d_D_select_1 : decode b_D_select 1 = .ok (.invokestatic 20, 3) := by decide +kernel
theorem d_D_select_4 : decode b_D_select 4 = .ok (.iload_n 2, 1) := by decide +kernel
theorem d_D_select_5 : decode b_D_select 5 = .ok (.invokestatic 20, 3) := by decide +kernel
theorem d_D_select_8 : decode b_D_select 8 = .ok (.iload_n 3, 1) := by decide +kernel
theorem d_D_select_9 : decode b_D_select 9 = .ok (.iconst 4, 1) := by decide +kernel
theorem d_D_select_10 : decode b_D_select 10 = .ok (.invokestatic 76, 3) := by decide +kernel
theorem d_D_select_13 : decode b_D_select 13 = .ok (.aload_n 0, 1) := by decide +kernel
theorem d_D_select_14 : decode b_D_select 14 = .ok (.getfield 11, 3) := by decide +kernel
theorem d_D_select_17 : decode b_D_select 17 = .ok (.iload_n 2, 1) := by decide +kernel
theorem d_D_select_18 : decode b_D_select 18 = .ok (.aaload, 1) := by decide +kernel
theorem d_D_select_19 : decode b_D_select 19 = .ok (.astore 6, 2) := by decide +kernel
theorem d_D_select_21 : decode b_D_select 21 = .ok (.aload_n 0, 1) := by decide +kernel
theorem d_D_select_22 : decode b_D_select 22 = .ok (.aload 6, 2) := by decide +kernel
theorem d_D_select_24 : decode b_D_select 24 = .ok (.getfield 58, 3) := by decide +kernel
theorem d_D_select_27 : decode b_D_select 27 = .ok (.aload 6, 2) := by decide +kernel
theorem d_D_select_29 : decode b_D_select 29 = .ok (.getfield 62, 3) := by decide +kernel
theorem d_D_select_32 : decode b_D_select 32 = .ok (.invokevirtual 85, 3) := by decide +kernel
theorem d_D_select_35 : decode b_D_select 35 = .ok (.astore 7, 2) := by decide +kernel
theorem d_D_select_37 : decode b_D_select 37 = .ok (.iconst 0, 1) := by decide +kernel
theorem d_D_select_38 : decode b_D_select 38 = .ok (.istore 8, 2) := by decide +kernel
theorem d_D_select_40 : decode b_D_select 40 = .ok (.iload 8, 2) := by decide +kernel
theorem d_D_select_42 : decode b_D_select 42 = .ok (.aload 6, 2) := by decide +kernel
theorem d_D_select_44 : decode b_D_select 44 = .ok (.getfield 58, 3) := by decide +kernel
theorem d_D_select_47 : decode b_D_select 47 = .ok (.if_icmp .ge 80, 3) := by decide +kernel
theorem d_D_select_50 : decode b_D_select 50 = .ok (.iconst 0, 1) := by decide +kernel
theorem d_D_select_51 : decode b_D_select 51 = .ok (.istore 9, 2) := by decide +kernel
theorem d_D_select_53 : decode b_D_select 53 = .ok (.iload 9, 2) := by decide +kernel
theorem d_D_select_55 : decode b_D_select 55 = .ok (.aload 6, 2) := by decide +kernel
theorem d_D_select_57 : decode b_D_select 57 = .ok (.getfield 62, 3) := by decide +kernel
theorem d_D_select_60 : decode b_D_select 60 = .ok (.if_icmp .ge 61, 3) := by decide +kernel
theorem d_D_select_63 : decode b_D_select 63 = .ok (.aload 6, 2) := by decide +kernel
theorem d_D_select_65 : decode b_D_select 65 = .ok (.iload 8, 2) := by decide +kernel
theorem d_D_select_67 : decode b_D_select 67 = .ok (.iload 9, 2) := by decide +kernel
theorem d_D_select_69 : decode b_D_select 69 = .ok (.invokevirtual 43, 3) := by decide +kernel
theorem d_D_select_72 : decode b_D_select 72 = .ok (.ifCond .eq 43, 3) := by decide +kernel
theorem d_D_select_75 : decode b_D_select 75 = .ok (.iload_n 3, 1) := by decide +kernel
theorem d_D_select_76 : decode b_D_select 76 = .ok (.iload 8, 2) := by decide +kernel
theorem d_D_select_78 : decode b_D_select 78 = .ok (.iload 9, 2) := by decide +kernel
theorem d_D_select_80 : decode b_D_select 80 = .ok (.aload 6, 2) := by decide +kernel
theorem d_D_select_82 : decode b_D_select 82 = .ok (.iload 8, 2) := by decide +kernel
theorem d_D_select_84 : decode b_D_select 84 = .ok (.iload 9, 2) := by decide +kernel
theorem d_D_select_86 : decode b_D_select 86 = .ok (.invokevirtual 54, 3) := by decide +kernel
theorem d_D_select_89 : decode b_D_select 89 = .ok (.lload 4, 2) := by decide +kernel
theorem d_D_select_91 : decode b_D_select 91 = .ok (.invokestatic 112, 3) := by decide +kernel
theorem d_D_select_94 : decode b_D_select 94 = .ok (.ifCond .eq 21, 3) := by decide +kernel
theorem d_D_select_97 : decode b_D_select 97 = .ok (.aload 7, 2) := by decide +kernel
theorem d_D_select_99 : decode b_D_select 99 = .ok (.iload 8, 2) := by decide +kernel
theorem d_D_select_101 : decode b_D_select 101 = .ok (.iload 9, 2) := by decide +kernel
theorem d_D_select_103 : decode b_D_select 103 = .ok (.aload 6, 2) := by decide +kernel
theorem d_D_select_105 : decode b_D_select 105 = .ok (.iload 8, 2) := by decide +kernel
theorem d_D_select_107 : decode b_D_select 107 = .ok (.iload 9, 2) := by decide +kernel
theorem d_D_select_109 : decode b_D_select 109 = .ok (.invokevirtual 54, 3) := by decide +kernel
theorem d_D_select_112 : decode b_D_select 112 = .ok (.invokevirtual 39, 3) := by decide +kernel
theorem d_D_select_115 : decode b_D_select 115 = .ok (.iinc 9 1, 3) := by decide +kernel
theorem d_D_select_118 : decode b_D_select 118 = .ok (.goto (-65), 3) := by decide +kernel
theorem d_D_select_121 : decode b_D_select 121 = .ok (.iinc 8 1, 3) := by decide +kernel
theorem d_D_select_124 : decode b_D_select 124 = .ok (.goto (-84), 3) := by decide +kernel
theorem d_D_select_127 : decode b_D_select 127 = .ok (.aload_n 0, 1) := by decide +kernel
theorem d_D_select_128 : decode b_D_select 128 = .ok (.iload_n 1, 1) := by decide +kernel
theorem d_D_select_129 : decode b_D_select 129 = .ok (.invokevirtual 101, 3) := by decide +kernel
theorem d_D_select_132 : decode b_D_select 132 = .ok (.ireturn, 1) := by decide +kernel
theorem d_D_reduce_0 : decode b_D_reduce 0 = .ok (.iload_n 1, 1) := by decide +kernel
theorem d_D_reduce_1 : decode b_D_reduce 1 = .ok (.invokestatic 20, 3) := by decide +kernel
theorem d_D_reduce_4 : decode b_D_reduce 4 = .ok (.iload_n 2, 1) := by decide +kernel
theorem d_D_reduce_5 : decode b_D_reduce 5 = .ok (.invokestatic 116, 3) := by decide +kernel
theorem d_D_reduce_8 : decode b_D_reduce 8 = .ok (.aload_n 0, 1) := by decide +kernel
theorem d_D_reduce_9 : decode b_D_reduce 9 = .ok (.getfield 11, 3) := by decide +kernel
theorem d_D_reduce_12 : decode b_D_reduce 12 = .ok (.iload_n 1, 1) := by decide +kernel
theorem d_D_reduce_13 : decode b_D_reduce 13 = .ok (.aaload, 1) := by decide +kernel
theorem d_D_reduce_14 : decode b_D_reduce 14 = .ok (.astore_n 3, 1) := by decide +kernel
theorem d_D_reduce_15 : decode b_D_reduce 15 = .ok (.aload_n 0, 1) := by decide +kernel
theorem d_D_reduce_16 : decode b_D_reduce 16 = .ok (.iconst 1, 1) := by decide +kernel
theorem d_D_reduce_17 : decode b_D_reduce 17 = .ok (.iconst 1, 1) := by decide +kernel
theorem d_D_reduce_18 : decode b_D_reduce 18 = .ok (.invokevirtual 85, 3) := by decide +kernel
theorem d_D_reduce_21 : decode b_D_reduce 21 = .ok (.astore 4, 2) := by decide +kernel
theorem d_D_reduce_23 : decode b_D_reduce 23 = .ok (.iconst 0, 1) := by decide +kernel
theorem d_D_reduce_24 : decode b_D_reduce 24 = .ok (.istore 5, 2) := by decide +kernel
theorem d_D_reduce_26 : decode b_D_reduce 26 = .ok (.iload 5, 2) := by decide +kernel
theorem d_D_reduce_28 : decode b_D_reduce 28 = .ok (.aload_n 3, 1) := by decide +kernel
theorem d_D_reduce_29 : decode b_D_reduce 29 = .ok (.getfield 58, 3) := by decide +kernel
theorem d_D_reduce_32 : decode b_D_reduce 32 = .ok (.if_icmp .ge 54, 3) := by decide +kernel
theorem d_D_reduce_35 : decode b_D_reduce 35 = .ok (.iconst 0, 1) := by decide +kernel
theorem d_D_reduce_36 : decode b_D_reduce 36 = .ok (.istore 6, 2) := by decide +kernel
theorem d_D_reduce_38 : decode b_D_reduce 38 = .ok (.iload 6, 2) := by decide +kernel
theorem d_D_reduce_40 : decode b_D_reduce 40 = .ok (.aload_n 3, 1) := by decide +kernel
theorem d_D_reduce_41 : decode b_D_reduce 41 = .ok (.getfield 62, 3) := by decide +kernel
theorem d_D_reduce_44 : decode b_D_reduce 44 = .ok (.if_icmp .ge 36, 3) := by decide +kernel
theorem d_D_reduce_47 : decode b_D_reduce 47 = .ok (.aload_n 3, 1) := by decide +kernel
theorem d_D_reduce_48 : decode b_D_reduce 48 = .ok (.iload 5, 2) := by decide +kernel
theorem d_D_reduce_50 : decode b_D_reduce 50 = .ok (.iload 6, 2) := by decide +kernel
theorem d_D_reduce_52 : decode b_D_reduce 52 = .ok (.invokevirtual 43, 3) := by decide +kernel
theorem d_D_reduce_55 : decode b_D_reduce 55 = .ok (.ifCond .eq 19, 3) := by decide +kernel
theorem d_D_reduce_58 : decode b_D_reduce 58 = .ok (.aload 4, 2) := by decide +kernel
theorem d_D_reduce_60 : decode b_D_reduce 60 = .ok (.iconst 0, 1) := by decide +kernel
theorem d_D_reduce_61 : decode b_D_reduce 61 = .ok (.iconst 0, 1) := by decide +kernel
theorem d_D_reduce_62 : decode b_D_reduce 62 = .ok (.aload_n 3, 1) := by decide +kernel
theorem d_D_reduce_63 : decode b_D_reduce 63 = .ok (.iload 5, 2) := by decide +kernel
theorem d_D_reduce_65 : decode b_D_reduce 65 = .ok (.iload 6, 2) := by decide +kernel
theorem d_D_reduce_67 : decode b_D_reduce 67 = .ok (.invokevirtual 54, 3) := by decide +kernel
theorem d_D_reduce_70 : decode b_D_reduce 70 = .ok (.iload_n 2, 1) := by decide +kernel
theorem d_D_reduce_71 : decode b_D_reduce 71 = .ok (.invokestatic 119, 3) := by decide +kernel
theorem d_D_reduce_74 : decode b_D_reduce 74 = .ok (.iinc 6 1, 3) := by decide +kernel
theorem d_D_reduce_77 : decode b_D_reduce 77 = .ok (.goto (-39), 3) := by decide +kernel
theorem d_D_reduce_80 : decode b_D_reduce 80 = .ok (.iinc 5 1, 3) := by decide +kernel
theorem d_D_reduce_83 : decode b_D_reduce 83 = .ok (.goto (-57), 3) := by decide +kernel
theorem d_D_reduce_86 : decode b_D_reduce 86 = .ok (.aload 4, 2) := by decide +kernel
theorem d_D_reduce_88 : decode b_D_reduce 88 = .ok (.iconst 0, 1) := by decide +kernel
theorem d_D_reduce_89 : decode b_D_reduce 89 = .ok (.iconst 0, 1) := by decide +kernel
theorem d_D_reduce_90 : decode b_D_reduce 90 = .ok (.invokevirtual 43, 3) := by decide +kernel
theorem d_D_reduce_93 : decode b_D_reduce 93 = .ok (.invokestatic 50, 3) := by decide +kernel
theorem d_D_reduce_96 : decode b_D_reduce 96 = .ok (.aload 4, 2) := by decide +kernel
theorem d_D_reduce_98 : decode b_D_reduce 98 = .ok (.iconst 0, 1) := by decide +kernel
theorem d_D_reduce_99 : decode b_D_reduce 99 = .ok (.iconst 0, 1) := by decide +kernel
theorem d_D_reduce_100 : decode b_D_reduce 100 = .ok (.invokevirtual 54, 3) := by decide +kernel
theorem d_D_reduce_103 : decode b_D_reduce 103 = .ok (.lreturn, 1) := by decide +kernel
theorem d_D_levels_0 : decode b_D_levels 0 = .ok (.iload_n 1, 1) := by decide +kernel
theorem d_D_levels_1 : decode b_D_levels 1 = .ok (.invokestatic 20, 3) := by decide +kernel
theorem d_D_levels_4 : decode b_D_levels 4 = .ok (.aload_n 0, 1) := by decide +kernel
theorem d_D_levels_5 : decode b_D_levels 5 = .ok (.iload_n 2, 1) := by decide +kernel
theorem d_D_levels_6 : decode b_D_levels 6 = .ok (.invokevirtual 123, 3) := by decide +kernel
theorem d_D_levels_9 : decode b_D_levels 9 = .ok (.aload_n 0, 1) := by decide +kernel
theorem d_D_levels_10 : decode b_D_levels 10 = .ok (.getfield 11, 3) := by decide +kernel
theorem d_D_levels_13 : decode b_D_levels 13 = .ok (.iload_n 2, 1) := by decide +kernel
theorem d_D_levels_14 : decode b_D_levels 14 = .ok (.aaload, 1) := by decide +kernel
theorem d_D_levels_15 : decode b_D_levels 15 = .ok (.astore 4, 2) := by decide +kernel
theorem d_D_levels_17 : decode b_D_levels 17 = .ok (.aload 4, 2) := by decide +kernel
theorem d_D_levels_19 : decode b_D_levels 19 = .ok (.iload_n 3, 1) := by decide +kernel
theorem d_D_levels_20 : decode b_D_levels 20 = .ok (.invokestatic 126, 3) := by decide +kernel
theorem d_D_levels_23 : decode b_D_levels 23 = .ok (.aload_n 0, 1) := by decide +kernel
theorem d_D_levels_24 : decode b_D_levels 24 = .ok (.iconst 1, 1) := by decide +kernel
theorem d_D_levels_25 : decode b_D_levels 25 = .ok (.aload 4, 2) := by decide +kernel
theorem d_D_levels_27 : decode b_D_levels 27 = .ok (.getfield 62, 3) := by decide +kernel
theorem d_D_levels_30 : decode b_D_levels 30 = .ok (.invokevirtual 85, 3) := by decide +kernel
theorem d_D_levels_33 : decode b_D_levels 33 = .ok (.astore 5, 2) := by decide +kernel
theorem d_D_levels_35 : decode b_D_levels 35 = .ok (.aload 5, 2) := by decide +kernel
theorem d_D_levels_37 : decode b_D_levels 37 = .ok (.iconst 0, 1) := by decide +kernel
theorem d_D_levels_38 : decode b_D_levels 38 = .ok (.iload_n 3, 1) := by decide +kernel
theorem d_D_levels_39 : decode b_D_levels 39 = .ok (.lconst 0, 1) := by decide +kernel
theorem d_D_levels_40 : decode b_D_levels 40 = .ok (.invokevirtual 39, 3) := by decide +kernel
theorem d_D_levels_43 : decode b_D_levels 43 = .ok (.iconst 0, 1) := by decide +kernel
theorem d_D_levels_44 : decode b_D_levels 44 = .ok (.istore 6, 2) := by decide +kernel
theorem d_D_levels_46 : decode b_D_levels 46 = .ok (.iload 6, 2) := by decide +kernel
theorem d_D_levels_48 : decode b_D_levels 48 = .ok (.aload 4, 2) := by decide +kernel
theorem d_D_levels_50 : decode b_D_levels 50 = .ok (.getfield 58, 3) := by decide +kernel
theorem d_D_levels_53 : decode b_D_levels 53 = .ok (.if_icmp .ge 18, 3) := by decide +kernel
theorem d_D_levels_56 : decode b_D_levels 56 = .ok (.aload 5, 2) := by decide +kernel
theorem d_D_levels_58 : decode b_D_levels 58 = .ok (.aload 4, 2) := by decide +kernel
theorem d_D_levels_60 : decode b_D_levels 60 = .ok (.iload 6, 2) := by decide +kernel
theorem d_D_levels_62 : decode b_D_levels 62 = .ok (.invokestatic 129, 3) := by decide +kernel
theorem d_D_levels_65 : decode b_D_levels 65 = .ok (.iinc 6 1, 3) := by decide +kernel
theorem d_D_levels_68 : decode b_D_levels 68 = .ok (.goto (-22), 3) := by decide +kernel
theorem d_D_levels_71 : decode b_D_levels 71 = .ok (.aload_n 0, 1) := by decide +kernel
theorem d_D_levels_72 : decode b_D_levels 72 = .ok (.iload_n 1, 1) := by decide +kernel
theorem d_D_levels_73 : decode b_D_levels 73 = .ok (.invokevirtual 101, 3) := by decide +kernel
theorem d_D_levels_76 : decode b_D_levels 76 = .ok (.ireturn, 1) := by decide +kernel
theorem d_D_paths_0 : decode b_D_paths 0 = .ok (.iload_n 1, 1) := by decide +kernel
theorem d_D_paths_1 : decode b_D_paths 1 = .ok (.invokestatic 20, 3) := by decide +kernel
theorem d_D_paths_4 : decode b_D_paths 4 = .ok (.aload_n 0, 1) := by decide +kernel
theorem d_D_paths_5 : decode b_D_paths 5 = .ok (.iload_n 2, 1) := by decide +kernel
theorem d_D_paths_6 : decode b_D_paths 6 = .ok (.invokevirtual 123, 3) := by decide +kernel
theorem d_D_paths_9 : decode b_D_paths 9 = .ok (.aload_n 0, 1) := by decide +kernel
theorem d_D_paths_10 : decode b_D_paths 10 = .ok (.getfield 11, 3) := by decide +kernel
theorem d_D_paths_13 : decode b_D_paths 13 = .ok (.iload_n 2, 1) := by decide +kernel
theorem d_D_paths_14 : decode b_D_paths 14 = .ok (.aaload, 1) := by decide +kernel
theorem d_D_paths_15 : decode b_D_paths 15 = .ok (.astore_n 3, 1) := by decide +kernel
theorem d_D_paths_16 : decode b_D_paths 16 = .ok (.aload_n 3, 1) := by decide +kernel
theorem d_D_paths_17 : decode b_D_paths 17 = .ok (.invokestatic 132, 3) := by decide +kernel
theorem d_D_paths_20 : decode b_D_paths 20 = .ok (.aload_n 0, 1) := by decide +kernel
theorem d_D_paths_21 : decode b_D_paths 21 = .ok (.aload_n 3, 1) := by decide +kernel
theorem d_D_paths_22 : decode b_D_paths 22 = .ok (.getfield 58, 3) := by decide +kernel
theorem d_D_paths_25 : decode b_D_paths 25 = .ok (.aload_n 3, 1) := by decide +kernel
theorem d_D_paths_26 : decode b_D_paths 26 = .ok (.getfield 62, 3) := by decide +kernel
theorem d_D_paths_29 : decode b_D_paths 29 = .ok (.invokevirtual 85, 3) := by decide +kernel
theorem d_D_paths_32 : decode b_D_paths 32 = .ok (.astore 4, 2) := by decide +kernel
theorem d_D_paths_34 : decode b_D_paths 34 = .ok (.aload 4, 2) := by decide +kernel
theorem d_D_paths_36 : decode b_D_paths 36 = .ok (.aload_n 3, 1) := by decide +kernel
theorem d_D_paths_37 : decode b_D_paths 37 = .ok (.iconst 1, 1) := by decide +kernel
theorem d_D_paths_38 : decode b_D_paths 38 = .ok (.invokestatic 93, 3) := by decide +kernel
theorem d_D_paths_41 : decode b_D_paths 41 = .ok (.iconst 0, 1) := by decide +kernel
theorem d_D_paths_42 : decode b_D_paths 42 = .ok (.istore 5, 2) := by decide +kernel
theorem d_D_paths_44 : decode b_D_paths 44 = .ok (.iload 5, 2) := by decide +kernel
theorem d_D_paths_46 : decode b_D_paths 46 = .ok (.aload_n 3, 1) := by decide +kernel
theorem d_D_paths_47 : decode b_D_paths 47 = .ok (.getfield 58, 3) := by decide +kernel
theorem d_D_paths_50 : decode b_D_paths 50 = .ok (.if_icmp .ge 20, 3) := by decide +kernel
theorem d_D_paths_53 : decode b_D_paths 53 = .ok (.aload 4, 2) := by decide +kernel
theorem d_D_paths_55 : decode b_D_paths 55 = .ok (.iload 5, 2) := by decide +kernel
theorem d_D_paths_57 : decode b_D_paths 57 = .ok (.iload 5, 2) := by decide +kernel
theorem d_D_paths_59 : decode b_D_paths 59 = .ok (.lconst 0, 1) := by decide +kernel
theorem d_D_paths_60 : decode b_D_paths 60 = .ok (.iconst 1, 1) := by decide +kernel
theorem d_D_paths_61 : decode b_D_paths 61 = .ok (.invokestatic 119, 3) := by decide +kernel
theorem d_D_paths_64 : decode b_D_paths 64 = .ok (.iinc 5 1, 3) := by decide +kernel
theorem d_D_paths_67 : decode b_D_paths 67 = .ok (.goto (-23), 3) := by decide +kernel
theorem d_D_paths_70 : decode b_D_paths 70 = .ok (.iconst 0, 1) := by decide +kernel
theorem d_D_paths_71 : decode b_D_paths 71 = .ok (.istore 5, 2) := by decide +kernel
theorem d_D_paths_73 : decode b_D_paths 73 = .ok (.iload 5, 2) := by decide +kernel
theorem d_D_paths_75 : decode b_D_paths 75 = .ok (.aload_n 3, 1) := by decide +kernel
theorem d_D_paths_76 : decode b_D_paths 76 = .ok (.getfield 58, 3) := by decide +kernel
theorem d_D_paths_79 : decode b_D_paths 79 = .ok (.if_icmp .ge 21, 3) := by decide +kernel
theorem d_D_paths_82 : decode b_D_paths 82 = .ok (.aload 4, 2) := by decide +kernel
theorem d_D_paths_84 : decode b_D_paths 84 = .ok (.iload 5, 2) := by decide +kernel
theorem d_D_paths_86 : decode b_D_paths 86 = .ok (.invokestatic 136, 3) := by decide +kernel
theorem d_D_paths_89 : decode b_D_paths 89 = .ok (.aload 4, 2) := by decide +kernel
theorem d_D_paths_91 : decode b_D_paths 91 = .ok (.invokestatic 139, 3) := by decide +kernel
theorem d_D_paths_94 : decode b_D_paths 94 = .ok (.iinc 5 1, 3) := by decide +kernel
theorem d_D_paths_97 : decode b_D_paths 97 = .ok (.goto (-24), 3) := by decide +kernel
theorem d_D_paths_100 : decode b_D_paths 100 = .ok (.aload_n 0, 1) := by decide +kernel
theorem d_D_paths_101 : decode b_D_paths 101 = .ok (.iload_n 1, 1) := by decide +kernel
theorem d_D_paths_102 : decode b_D_paths 102 = .ok (.invokevirtual 101, 3) := by decide +kernel
theorem d_D_paths_105 : decode b_D_paths 105 = .ok (.ireturn, 1) := by decide +kernel
theorem d_D_triangles_0 : decode b_D_triangles 0 = .ok (.aload_n 0, 1) := by decide +kernel
theorem d_D_triangles_1 : decode b_D_triangles 1 = .ok (.iload_n 1, 1) := by decide +kernel
theorem d_D_triangles_2 : decode b_D_triangles 2 = .ok (.invokevirtual 123, 3) := by decide +kernel
theorem d_D_triangles_5 : decode b_D_triangles 5 = .ok (.aload_n 0, 1) := by decide +kernel
theorem d_D_triangles_6 : decode b_D_triangles 6 = .ok (.getfield 11, 3) := by decide +kernel
theorem d_D_triangles_9 : decode b_D_triangles 9 = .ok (.iload_n 1, 1) := by decide +kernel
theorem d_D_triangles_10 : decode b_D_triangles 10 = .ok (.aaload, 1) := by decide +kernel
theorem d_D_triangles_11 : decode b_D_triangles 11 = .ok (.astore_n 2, 1) := by decide +kernel
theorem d_D_triangles_12 : decode b_D_triangles 12 = .ok (.iconst 0, 1) := by decide +kernel
theorem d_D_triangles_13 : decode b_D_triangles 13 = .ok (.istore_n 3, 1) := by decide +kernel
theorem d_D_triangles_14 : decode b_D_triangles 14 = .ok (.iconst 0, 1) := by decide +kernel
theorem d_D_triangles_15 : decode b_D_triangles 15 = .ok (.istore 4, 2) := by decide +kernel
theorem d_D_triangles_17 : decode b_D_triangles 17 = .ok (.iload 4, 2) := by decide +kernel
theorem d_D_triangles_19 : decode b_D_triangles 19 = .ok (.aload_n 2, 1) := by decide +kernel
theorem d_D_triangles_20 : decode b_D_triangles 20 = .ok (.getfield 58, 3) := by decide +kernel
theorem d_D_triangles_23 : decode b_D_triangles 23 = .ok (.if_icmp .ge 77, 3) := by decide +kernel
theorem d_D_triangles_26 : decode b_D_triangles 26 = .ok (.iconst 0, 1) := by decide +kernel
theorem d_D_triangles_27 : decode b_D_triangles 27 = .ok (.istore 5, 2) := by decide +kernel
theorem d_D_triangles_29 : decode b_D_triangles 29 = .ok (.iload 5, 2) := by decide +kernel
theorem d_D_triangles_31 : decode b_D_triangles 31 = .ok (.iload 4, 2) := by decide +kernel
theorem d_D_triangles_33 : decode b_D_triangles 33 = .ok (.if_icmp .ge 61, 3) := by decide +kernel
theorem d_D_triangles_36 : decode b_D_triangles 36 = .ok (.iconst 0, 1) := by decide +kernel
theorem d_D_triangles_37 : decode b_D_triangles 37 = .ok (.istore 6, 2) := by decide +kernel
theorem d_D_triangles_39 : decode b_D_triangles 39 = .ok (.iload 6, 2) := by decide +kernel
theorem d_D_triangles_41 : decode b_D_triangles 41 = .ok (.iload 5, 2) := by decide +kernel
theorem d_D_triangles_43 : decode b_D_triangles 43 = .ok (.if_icmp .ge 45, 3) := by decide +kernel
theorem d_D_triangles_46 : decode b_D_triangles 46 = .ok (.aload_n 2, 1) := by decide +kernel
theorem d_D_triangles_47 : decode b_D_triangles 47 = .ok (.iload 5, 2) := by decide +kernel
theorem d_D_triangles_49 : decode b_D_triangles 49 = .ok (.iload 6, 2) := by decide +kernel
theorem d_D_triangles_51 : decode b_D_triangles 51 = .ok (.invokevirtual 43, 3) := by decide +kernel
theorem d_D_triangles_54 : decode b_D_triangles 54 = .ok (.ifCond .eq 28, 3) := by decide +kernel
theorem d_D_triangles_57 : decode b_D_triangles 57 = .ok (.aload_n 2, 1) := by decide +kernel
theorem d_D_triangles_58 : decode b_D_triangles 58 = .ok (.iload 4, 2) := by decide +kernel
theorem d_D_triangles_60 : decode b_D_triangles 60 = .ok (.iload 6, 2) := by decide +kernel
theorem d_D_triangles_62 : decode b_D_triangles 62 = .ok (.invokevirtual 43, 3) := by decide +kernel
theorem d_D_triangles_65 : decode b_D_triangles 65 = .ok (.ifCond .eq 17, 3) := by decide +kernel
theorem d_D_triangles_68 : decode b_D_triangles 68 = .ok (.aload_n 2, 1) := by decide +kernel
theorem d_D_triangles_69 : decode b_D_triangles 69 = .ok (.iload 4, 2) := by decide +kernel
theorem d_D_triangles_71 : decode b_D_triangles 71 = .ok (.iload 5, 2) := by decide +kernel
theorem d_D_triangles_73 : decode b_D_triangles 73 = .ok (.invokevirtual 43, 3) := by decide +kernel
theorem d_D_triangles_76 : decode b_D_triangles 76 = .ok (.ifCond .eq 6, 3) := by decide +kernel
theorem d_D_triangles_79 : decode b_D_triangles 79 = .ok (.iinc 3 1, 3) := by decide +kernel
theorem d_D_triangles_82 : decode b_D_triangles 82 = .ok (.iinc 6 1, 3) := by decide +kernel
theorem d_D_triangles_85 : decode b_D_triangles 85 = .ok (.goto (-46), 3) := by decide +kernel
theorem d_D_triangles_88 : decode b_D_triangles 88 = .ok (.iinc 5 1, 3) := by decide +kernel
theorem d_D_triangles_91 : decode b_D_triangles 91 = .ok (.goto (-62), 3) := by decide +kernel
theorem d_D_triangles_94 : decode b_D_triangles 94 = .ok (.iinc 4 1, 3) := by decide +kernel
theorem d_D_triangles_97 : decode b_D_triangles 97 = .ok (.goto (-80), 3) := by decide +kernel
theorem d_D_triangles_100 : decode b_D_triangles 100 = .ok (.iload_n 3, 1) := by decide +kernel
theorem d_D_triangles_101 : decode b_D_triangles 101 = .ok (.ireturn, 1) := by decide +kernel
theorem d_D_components_0 : decode b_D_components 0 = .ok (.iload_n 1, 1) := by decide +kernel
theorem d_D_components_1 : decode b_D_components 1 = .ok (.invokestatic 20, 3) := by decide +kernel
theorem d_D_components_4 : decode b_D_components 4 = .ok (.aload_n 0, 1) := by decide +kernel
theorem d_D_components_5 : decode b_D_components 5 = .ok (.iload_n 2, 1) := by decide +kernel
theorem d_D_components_6 : decode b_D_components 6 = .ok (.invokevirtual 123, 3) := by decide +kernel
theorem d_D_components_9 : decode b_D_components 9 = .ok (.aload_n 0, 1) := by decide +kernel
theorem d_D_components_10 : decode b_D_components 10 = .ok (.getfield 11, 3) := by decide +kernel
theorem d_D_components_13 : decode b_D_components 13 = .ok (.iload_n 2, 1) := by decide +kernel
theorem d_D_components_14 : decode b_D_components 14 = .ok (.aaload, 1) := by decide +kernel
theorem d_D_components_15 : decode b_D_components 15 = .ok (.astore_n 3, 1) := by decide +kernel
theorem d_D_components_16 : decode b_D_components 16 = .ok (.aload_n 0, 1) := by decide +kernel
theorem d_D_components_17 : decode b_D_components 17 = .ok (.iconst 1, 1) := by decide +kernel
theorem d_D_components_18 : decode b_D_components 18 = .ok (.aload_n 3, 1) := by decide +kernel
theorem d_D_components_19 : decode b_D_components 19 = .ok (.getfield 62, 3) := by decide +kernel
theorem d_D_components_22 : decode b_D_components 22 = .ok (.invokevirtual 85, 3) := by decide +kernel
theorem d_D_components_25 : decode b_D_components 25 = .ok (.astore 4, 2) := by decide +kernel
theorem d_D_components_27 : decode b_D_components 27 = .ok (.iconst 0, 1) := by decide +kernel
theorem d_D_components_28 : decode b_D_components 28 = .ok (.istore 5, 2) := by decide +kernel
theorem d_D_components_30 : decode b_D_components 30 = .ok (.iload 5, 2) := by decide +kernel
theorem d_D_components_32 : decode b_D_components 32 = .ok (.aload_n 3, 1) := by decide +kernel
theorem d_D_components_33 : decode b_D_components 33 = .ok (.getfield 62, 3) := by decide +kernel
theorem d_D_components_36 : decode b_D_components 36 = .ok (.if_icmp .ge 20, 3) := by decide +kernel
theorem d_D_components_39 : decode b_D_components 39 = .ok (.aload 4, 2) := by decide +kernel
theorem d_D_components_41 : decode b_D_components 41 = .ok (.iconst 0, 1) := by decide +kernel
theorem d_D_components_42 : decode b_D_components 42 = .ok (.iload 5, 2) := by decide +kernel
theorem d_D_components_44 : decode b_D_components 44 = .ok (.iload 5, 2) := by decide +kernel
theorem d_D_components_46 : decode b_D_components 46 = .ok (.i2l, 1) := by decide +kernel
theorem d_D_components_47 : decode b_D_components 47 = .ok (.invokevirtual 39, 3) := by decide +kernel
theorem d_D_components_50 : decode b_D_components 50 = .ok (.iinc 5 1, 3) := by decide +kernel
theorem d_D_components_53 : decode b_D_components 53 = .ok (.goto (-23), 3) := by decide +kernel
theorem d_D_components_56 : decode b_D_components 56 = .ok (.iconst 0, 1) := by decide +kernel
theorem d_D_components_57 : decode b_D_components 57 = .ok (.istore 5, 2) := by decide +kernel
theorem d_D_components_59 : decode b_D_components 59 = .ok (.iload 5, 2) := by decide +kernel
theorem d_D_components_61 : decode b_D_components 61 = .ok (.aload_n 3, 1) := by decide +kernel
theorem d_D_components_62 : decode b_D_components 62 = .ok (.getfield 58, 3) := by decide +kernel
theorem d_D_components_65 : decode b_D_components 65 = .ok (.if_icmp .ge 15, 3) := by decide +kernel
theorem d_D_components_68 : decode b_D_components 68 = .ok (.aload 4, 2) := by decide +kernel
theorem d_D_components_70 : decode b_D_components 70 = .ok (.aload_n 3, 1) := by decide +kernel
theorem d_D_components_71 : decode b_D_components 71 = .ok (.invokestatic 142, 3) := by decide +kernel
theorem d_D_components_74 : decode b_D_components 74 = .ok (.iinc 5 1, 3) := by decide +kernel
theorem d_D_components_77 : decode b_D_components 77 = .ok (.goto (-18), 3) := by decide +kernel
theorem d_D_components_80 : decode b_D_components 80 = .ok (.aload_n 0, 1) := by decide +kernel
theorem d_D_components_81 : decode b_D_components 81 = .ok (.iload_n 1, 1) := by decide +kernel
theorem d_D_components_82 : decode b_D_components 82 = .ok (.invokevirtual 101, 3) := by decide +kernel
theorem d_D_components_85 : decode b_D_components 85 = .ok (.ireturn, 1) := by decide +kernel
theorem d_D_blank_0 : decode b_D_blank 0 = .ok (.aload_n 0, 1) := by decide +kernel
theorem d_D_blank_1 : decode b_D_blank 1 = .ok (.getfield 16, 3) := by decide +kernel
theorem d_D_blank_4 : decode b_D_blank 4 = .ok (.iload_n 1, 1) := by decide +kernel
theorem d_D_blank_5 : decode b_D_blank 5 = .ok (.iload_n 2, 1) := by decide +kernel
theorem d_D_blank_6 : decode b_D_blank 6 = .ok (.invokevirtual 27, 3) := by decide +kernel
theorem d_D_blank_9 : decode b_D_blank 9 = .ok (.aload_n 0, 1) := by decide +kernel
theorem d_D_blank_10 : decode b_D_blank 10 = .ok (.getfield 16, 3) := by decide +kernel
theorem d_D_blank_13 : decode b_D_blank 13 = .ok (.areturn, 1) := by decide +kernel
theorem d_D_keep_0 : decode b_D_keep 0 = .ok (.aload_n 0, 1) := by decide +kernel
theorem d_D_keep_1 : decode b_D_keep 1 = .ok (.getfield 16, 3) := by decide +kernel
theorem d_D_keep_4 : decode b_D_keep 4 = .ok (.astore_n 2, 1) := by decide +kernel
theorem d_D_keep_5 : decode b_D_keep 5 = .ok (.aload_n 0, 1) := by decide +kernel
theorem d_D_keep_6 : decode b_D_keep 6 = .ok (.aload_n 0, 1) := by decide +kernel
theorem d_D_keep_7 : decode b_D_keep 7 = .ok (.getfield 11, 3) := by decide +kernel
theorem d_D_keep_10 : decode b_D_keep 10 = .ok (.iload_n 1, 1) := by decide +kernel
theorem d_D_keep_11 : decode b_D_keep 11 = .ok (.aaload, 1) := by decide +kernel
theorem d_D_keep_12 : decode b_D_keep 12 = .ok (.putfield 16, 3) := by decide +kernel
theorem d_D_keep_15 : decode b_D_keep 15 = .ok (.aload_n 0, 1) := by decide +kernel
theorem d_D_keep_16 : decode b_D_keep 16 = .ok (.getfield 11, 3) := by decide +kernel
theorem d_D_keep_19 : decode b_D_keep 19 = .ok (.iload_n 1, 1) := by decide +kernel
theorem d_D_keep_20 : decode b_D_keep 20 = .ok (.aload_n 2, 1) := by decide +kernel
theorem d_D_keep_21 : decode b_D_keep 21 = .ok (.aastore, 1) := by decide +kernel
theorem d_D_keep_22 : decode b_D_keep 22 = .ok (.aload_n 2, 1) := by decide +kernel
theorem d_D_keep_23 : decode b_D_keep 23 = .ok (.invokevirtual 65, 3) := by decide +kernel
theorem d_D_keep_26 : decode b_D_keep 26 = .ok (.ireturn, 1) := by decide +kernel
theorem d_D_gatherProducts_0 : decode b_D_gatherProducts 0 = .ok (.iconst 0, 1) := by decide +kernel
theorem d_D_gatherProducts_1 : decode b_D_gatherProducts 1 = .ok (.istore 6, 2) := by decide +kernel
theorem d_D_gatherProducts_3 : decode b_D_gatherProducts 3 = .ok (.iload 6, 2) := by decide +kernel
theorem d_D_gatherProducts_5 : decode b_D_gatherProducts 5 = .ok (.aload_n 1, 1) := by decide +kernel
theorem d_D_gatherProducts_6 : decode b_D_gatherProducts 6 = .ok (.getfield 62, 3) := by decide +kernel
theorem d_D_gatherProducts_9 : decode b_D_gatherProducts 9 = .ok (.if_icmp .ge 59, 3) := by decide +kernel
theorem d_D_gatherProducts_12 : decode b_D_gatherProducts 12 = .ok (.aload_n 1, 1) := by decide +kernel
theorem d_D_gatherProducts_13 : decode b_D_gatherProducts 13 = .ok (.iload_n 3, 1) := by decide +kernel
theorem d_D_gatherProducts_14 : decode b_D_gatherProducts 14 = .ok (.iload 6, 2) := by decide +kernel
theorem d_D_gatherProducts_16 : decode b_D_gatherProducts 16 = .ok (.invokevirtual 43, 3) := by decide +kernel
theorem d_D_gatherProducts_19 : decode b_D_gatherProducts 19 = .ok (.ifCond .eq 43, 3) := by decide +kernel
theorem d_D_gatherProducts_22 : decode b_D_gatherProducts 22 = .ok (.aload_n 2, 1) := by decide +kernel
theorem d_D_gatherProducts_23 : decode b_D_gatherProducts 23 = .ok (.iload 6, 2) := by decide +kernel
theorem d_D_gatherProducts_25 : decode b_D_gatherProducts 25 = .ok (.iload 4, 2) := by decide +kernel
theorem d_D_gatherProducts_27 : decode b_D_gatherProducts 27 = .ok (.invokevirtual 43, 3) := by decide +kernel
theorem d_D_gatherProducts_30 : decode b_D_gatherProducts 30 = .ok (.ifCond .eq 32, 3) := by decide +kernel
theorem d_D_gatherProducts_33 : decode b_D_gatherProducts 33 = .ok (.aload_n 0, 1) := by decide +kernel
theorem d_D_gatherProducts_34 : decode b_D_gatherProducts 34 = .ok (.iload_n 3, 1) := by decide +kernel
theorem d_D_gatherProducts_35 : decode b_D_gatherProducts 35 = .ok (.iload 4, 2) := by decide +kernel
theorem d_D_gatherProducts_37 : decode b_D_gatherProducts 37 = .ok (.iload 5, 2) := by decide +kernel
theorem d_D_gatherProducts_39 : decode b_D_gatherProducts 39 = .ok (.aload_n 1, 1) := by decide +kernel
theorem d_D_gatherProducts_40 : decode b_D_gatherProducts 40 = .ok (.iload_n 3, 1) := by decide +kernel
theorem d_D_gatherProducts_41 : decode b_D_gatherProducts 41 = .ok (.iload 6, 2) := by decide +kernel
theorem d_D_gatherProducts_43 : decode b_D_gatherProducts 43 = .ok (.invokevirtual 54, 3) := by decide +kernel
theorem d_D_gatherProducts_46 : decode b_D_gatherProducts 46 = .ok (.aload_n 2, 1) := by decide +kernel
theorem d_D_gatherProducts_47 : decode b_D_gatherProducts 47 = .ok (.iload 6, 2) := by decide +kernel
theorem d_D_gatherProducts_49 : decode b_D_gatherProducts 49 = .ok (.iload 4, 2) := by decide +kernel
theorem d_D_gatherProducts_51 : decode b_D_gatherProducts 51 = .ok (.invokevirtual 54, 3) := by decide +kernel
theorem d_D_gatherProducts_54 : decode b_D_gatherProducts 54 = .ok (.invokestatic 108, 3) := by decide +kernel
theorem d_D_gatherProducts_57 : decode b_D_gatherProducts 57 = .ok (.iload 5, 2) := by decide +kernel
theorem d_D_gatherProducts_59 : decode b_D_gatherProducts 59 = .ok (.invokestatic 119, 3) := by decide +kernel
theorem d_D_gatherProducts_62 : decode b_D_gatherProducts 62 = .ok (.iinc 6 1, 3) := by decide +kernel
theorem d_D_gatherProducts_65 : decode b_D_gatherProducts 65 = .ok (.goto (-62), 3) := by decide +kernel
theorem d_D_gatherProducts_68 : decode b_D_gatherProducts 68 = .ok (.return_, 1) := by decide +kernel
theorem d_D_gatherAll_0 : decode b_D_gatherAll 0 = .ok (.iconst 0, 1) := by decide +kernel
theorem d_D_gatherAll_1 : decode b_D_gatherAll 1 = .ok (.istore_n 3, 1) := by decide +kernel
theorem d_D_gatherAll_2 : decode b_D_gatherAll 2 = .ok (.iload_n 3, 1) := by decide +kernel
theorem d_D_gatherAll_3 : decode b_D_gatherAll 3 = .ok (.aload_n 1, 1) := by decide +kernel
theorem d_D_gatherAll_4 : decode b_D_gatherAll 4 = .ok (.getfield 58, 3) := by decide +kernel
theorem d_D_gatherAll_7 : decode b_D_gatherAll 7 = .ok (.if_icmp .ge 52, 3) := by decide +kernel
theorem d_D_gatherAll_10 : decode b_D_gatherAll 10 = .ok (.iconst 0, 1) := by decide +kernel
theorem d_D_gatherAll_11 : decode b_D_gatherAll 11 = .ok (.istore 4, 2) := by decide +kernel
theorem d_D_gatherAll_13 : decode b_D_gatherAll 13 = .ok (.iload 4, 2) := by decide +kernel
theorem d_D_gatherAll_15 : decode b_D_gatherAll 15 = .ok (.aload_n 1, 1) := by decide +kernel
theorem d_D_gatherAll_16 : decode b_D_gatherAll 16 = .ok (.getfield 62, 3) := by decide +kernel
theorem d_D_gatherAll_19 : decode b_D_gatherAll 19 = .ok (.if_icmp .ge 34, 3) := by decide +kernel
theorem d_D_gatherAll_22 : decode b_D_gatherAll 22 = .ok (.aload_n 1, 1) := by decide +kernel
theorem d_D_gatherAll_23 : decode b_D_gatherAll 23 = .ok (.iload_n 3, 1) := by decide +kernel
theorem d_D_gatherAll_24 : decode b_D_gatherAll 24 = .ok (.iload 4, 2) := by decide +kernel
theorem d_D_gatherAll_26 : decode b_D_gatherAll 26 = .ok (.invokevirtual 43, 3) := by decide +kernel
theorem d_D_gatherAll_29 : decode b_D_gatherAll 29 = .ok (.ifCond .eq 18, 3) := by decide +kernel
theorem d_D_gatherAll_32 : decode b_D_gatherAll 32 = .ok (.aload_n 0, 1) := by decide +kernel
theorem d_D_gatherAll_33 : decode b_D_gatherAll 33 = .ok (.iload_n 3, 1) := by decide +kernel
theorem d_D_gatherAll_34 : decode b_D_gatherAll 34 = .ok (.iload 4, 2) := by decide +kernel
theorem d_D_gatherAll_36 : decode b_D_gatherAll 36 = .ok (.aload_n 1, 1) := by decide +kernel
theorem d_D_gatherAll_37 : decode b_D_gatherAll 37 = .ok (.iload_n 3, 1) := by decide +kernel
theorem d_D_gatherAll_38 : decode b_D_gatherAll 38 = .ok (.iload 4, 2) := by decide +kernel
theorem d_D_gatherAll_40 : decode b_D_gatherAll 40 = .ok (.invokevirtual 54, 3) := by decide +kernel
theorem d_D_gatherAll_43 : decode b_D_gatherAll 43 = .ok (.iload_n 2, 1) := by decide +kernel
theorem d_D_gatherAll_44 : decode b_D_gatherAll 44 = .ok (.invokestatic 119, 3) := by decide +kernel
theorem d_D_gatherAll_47 : decode b_D_gatherAll 47 = .ok (.iinc 4 1, 3) := by decide +kernel
theorem d_D_gatherAll_50 : decode b_D_gatherAll 50 = .ok (.goto (-37), 3) := by decide +kernel
theorem d_D_gatherAll_53 : decode b_D_gatherAll 53 = .ok (.iinc 3 1, 3) := by decide +kernel
theorem d_D_gatherAll_56 : decode b_D_gatherAll 56 = .ok (.goto (-54), 3) := by decide +kernel
theorem d_D_gatherAll_59 : decode b_D_gatherAll 59 = .ok (.return_, 1) := by decide +kernel
theorem d_D_gather_0 : decode b_D_gather 0 = .ok (.aload_n 0, 1) := by decide +kernel
theorem d_D_gather_1 : decode b_D_gather 1 = .ok (.iload_n 1, 1) := by decide +kernel
theorem d_D_gather_2 : decode b_D_gather 2 = .ok (.iload_n 2, 1) := by decide +kernel
theorem d_D_gather_3 : decode b_D_gather 3 = .ok (.aload_n 0, 1) := by decide +kernel
theorem d_D_gather_4 : decode b_D_gather 4 = .ok (.iload_n 1, 1) := by decide +kernel
theorem d_D_gather_5 : decode b_D_gather 5 = .ok (.iload_n 2, 1) := by decide +kernel
theorem d_D_gather_6 : decode b_D_gather 6 = .ok (.invokevirtual 43, 3) := by decide +kernel
theorem d_D_gather_9 : decode b_D_gather 9 = .ok (.ifCond .eq 18, 3) := by decide +kernel
theorem d_D_gather_12 : decode b_D_gather 12 = .ok (.iload 5, 2) := by decide +kernel
theorem d_D_gather_14 : decode b_D_gather 14 = .ok (.aload_n 0, 1) := by decide +kernel
theorem d_D_gather_15 : decode b_D_gather 15 = .ok (.iload_n 1, 1) := by decide +kernel
theorem d_D_gather_16 : decode b_D_gather 16 = .ok (.iload_n 2, 1) := by decide +kernel
theorem d_D_gather_17 : decode b_D_gather 17 = .ok (.invokevirtual 54, 3) := by decide +kernel
theorem d_D_gather_20 : decode b_D_gather 20 = .ok (.lload_n 3, 1) := by decide +kernel
theorem d_D_gather_21 : decode b_D_gather 21 = .ok (.invokestatic 146, 3) := by decide +kernel
theorem d_D_gather_24 : decode b_D_gather 24 = .ok (.goto 4, 3) := by decide +kernel
theorem d_D_gather_27 : decode b_D_gather 27 = .ok (.lload_n 3, 1) := by decide +kernel
theorem d_D_gather_28 : decode b_D_gather 28 = .ok (.invokevirtual 39, 3) := by decide +kernel
theorem d_D_gather_31 : decode b_D_gather 31 = .ok (.return_, 1) := by decide +kernel
theorem d_D_dropZeros_0 : decode b_D_dropZeros 0 = .ok (.iload_n 1, 1) := by decide +kernel
theorem d_D_dropZeros_1 : decode b_D_dropZeros 1 = .ok (.ifCond .eq 9, 3) := by decide +kernel
theorem d_D_dropZeros_4 : decode b_D_dropZeros 4 = .ok (.iload_n 1, 1) := by decide +kernel
theorem d_D_dropZeros_5 : decode b_D_dropZeros 5 = .ok (.iconst 2, 1) := by decide +kernel
theorem d_D_dropZeros_6 : decode b_D_dropZeros 6 = .ok (.if_icmp .eq 4, 3) := by decide +kernel
theorem d_D_dropZeros_9 : decode b_D_dropZeros 9 = .ok (.return_, 1) := by decide +kernel
theorem d_D_dropZeros_10 : decode b_D_dropZeros 10 = .ok (.iconst 0, 1) := by decide +kernel
theorem d_D_dropZeros_11 : decode b_D_dropZeros 11 = .ok (.istore_n 2, 1) := by decide +kernel
theorem d_D_dropZeros_12 : decode b_D_dropZeros 12 = .ok (.iload_n 2, 1) := by decide +kernel
theorem d_D_dropZeros_13 : decode b_D_dropZeros 13 = .ok (.aload_n 0, 1) := by decide +kernel
theorem d_D_dropZeros_14 : decode b_D_dropZeros 14 = .ok (.getfield 58, 3) := by decide +kernel
theorem d_D_dropZeros_17 : decode b_D_dropZeros 17 = .ok (.if_icmp .ge 51, 3) := by decide +kernel
theorem d_D_dropZeros_20 : decode b_D_dropZeros 20 = .ok (.iconst 0, 1) := by decide +kernel
theorem d_D_dropZeros_21 : decode b_D_dropZeros 21 = .ok (.istore_n 3, 1) := by decide +kernel
theorem d_D_dropZeros_22 : decode b_D_dropZeros 22 = .ok (.iload_n 3, 1) := by decide +kernel
theorem d_D_dropZeros_23 : decode b_D_dropZeros 23 = .ok (.aload_n 0, 1) := by decide +kernel
theorem d_D_dropZeros_24 : decode b_D_dropZeros 24 = .ok (.getfield 62, 3) := by decide +kernel
theorem d_D_dropZeros_27 : decode b_D_dropZeros 27 = .ok (.if_icmp .ge 35, 3) := by decide +kernel
theorem d_D_dropZeros_30 : decode b_D_dropZeros 30 = .ok (.aload_n 0, 1) := by decide +kernel
theorem d_D_dropZeros_31 : decode b_D_dropZeros 31 = .ok (.iload_n 2, 1) := by decide +kernel
theorem d_D_dropZeros_32 : decode b_D_dropZeros 32 = .ok (.iload_n 3, 1) := by decide +kernel
theorem d_D_dropZeros_33 : decode b_D_dropZeros 33 = .ok (.invokevirtual 43, 3) := by decide +kernel
theorem d_D_dropZeros_36 : decode b_D_dropZeros 36 = .ok (.ifCond .eq 20, 3) := by decide +kernel
theorem d_D_dropZeros_39 : decode b_D_dropZeros 39 = .ok (.aload_n 0, 1) := by decide +kernel
theorem d_D_dropZeros_40 : decode b_D_dropZeros 40 = .ok (.iload_n 2, 1) := by decide +kernel
theorem d_D_dropZeros_41 : decode b_D_dropZeros 41 = .ok (.iload_n 3, 1) := by decide +kernel
theorem d_D_dropZeros_42 : decode b_D_dropZeros 42 = .ok (.invokevirtual 54, 3) := by decide +kernel
theorem d_D_dropZeros_45 : decode b_D_dropZeros 45 = .ok (.lconst 0, 1) := by decide +kernel
theorem d_D_dropZeros_46 : decode b_D_dropZeros 46 = .ok (.lcmp, 1) := by decide +kernel
theorem d_D_dropZeros_47 : decode b_D_dropZeros 47 = .ok (.ifCond .ne 9, 3) := by decide +kernel
theorem d_D_dropZeros_50 : decode b_D_dropZeros 50 = .ok (.aload_n 0, 1) := by decide +kernel
theorem d_D_dropZeros_51 : decode b_D_dropZeros 51 = .ok (.iload_n 2, 1) := by decide +kernel
theorem d_D_dropZeros_52 : decode b_D_dropZeros 52 = .ok (.iload_n 3, 1) := by decide +kernel
theorem d_D_dropZeros_53 : decode b_D_dropZeros 53 = .ok (.invokevirtual 47, 3) := by decide +kernel
theorem d_D_dropZeros_56 : decode b_D_dropZeros 56 = .ok (.iinc 3 1, 3) := by decide +kernel
theorem d_D_dropZeros_59 : decode b_D_dropZeros 59 = .ok (.goto (-37), 3) := by decide +kernel
theorem d_D_dropZeros_62 : decode b_D_dropZeros 62 = .ok (.iinc 2 1, 3) := by decide +kernel
theorem d_D_dropZeros_65 : decode b_D_dropZeros 65 = .ok (.goto (-53), 3) := by decide +kernel
theorem d_D_dropZeros_68 : decode b_D_dropZeros 68 = .ok (.return_, 1) := by decide +kernel
theorem d_D_sumOver_0 : decode b_D_sumOver 0 = .ok (.iload_n 0, 1) := by decide +kernel
theorem d_D_sumOver_1 : decode b_D_sumOver 1 = .ok (.tableswitch 57 0 2 #[27, 33, 39], 27) := by decide +kernel
theorem d_D_sumOver_28 : decode b_D_sumOver 28 = .ok (.lload_n 1, 1) := by decide +kernel
theorem d_D_sumOver_29 : decode b_D_sumOver 29 = .ok (.lload_n 3, 1) := by decide +kernel
theorem d_D_sumOver_30 : decode b_D_sumOver 30 = .ok (.invokestatic 149, 3) := by decide +kernel
theorem d_D_sumOver_33 : decode b_D_sumOver 33 = .ok (.lreturn, 1) := by decide +kernel
theorem d_D_sumOver_34 : decode b_D_sumOver 34 = .ok (.lload_n 1, 1) := by decide +kernel
theorem d_D_sumOver_35 : decode b_D_sumOver 35 = .ok (.lload_n 3, 1) := by decide +kernel
theorem d_D_sumOver_36 : decode b_D_sumOver 36 = .ok (.invokestatic 153, 3) := by decide +kernel
theorem d_D_sumOver_39 : decode b_D_sumOver 39 = .ok (.lreturn, 1) := by decide +kernel
theorem d_D_sumOver_40 : decode b_D_sumOver 40 = .ok (.lload_n 1, 1) := by decide +kernel
theorem d_D_sumOver_41 : decode b_D_sumOver 41 = .ok (.lconst 0, 1) := by decide +kernel
theorem d_D_sumOver_42 : decode b_D_sumOver 42 = .ok (.lcmp, 1) := by decide +kernel
theorem d_D_sumOver_43 : decode b_D_sumOver 43 = .ok (.ifCond .ne 9, 3) := by decide +kernel
theorem d_D_sumOver_46 : decode b_D_sumOver 46 = .ok (.lload_n 3, 1) := by decide +kernel
theorem d_D_sumOver_47 : decode b_D_sumOver 47 = .ok (.lconst 0, 1) := by decide +kernel
theorem d_D_sumOver_48 : decode b_D_sumOver 48 = .ok (.lcmp, 1) := by decide +kernel
theorem d_D_sumOver_49 : decode b_D_sumOver 49 = .ok (.ifCond .eq 7, 3) := by decide +kernel
theorem d_D_sumOver_52 : decode b_D_sumOver 52 = .ok (.lconst 1, 1) := by decide +kernel
theorem d_D_sumOver_53 : decode b_D_sumOver 53 = .ok (.goto 4, 3) := by decide +kernel
theorem d_D_sumOver_56 : decode b_D_sumOver 56 = .ok (.lconst 0, 1) := by decide +kernel
theorem d_D_sumOver_57 : decode b_D_sumOver 57 = .ok (.lreturn, 1) := by decide +kernel
theorem d_D_sumOver_58 : decode b_D_sumOver 58 = .ok (.lload_n 1, 1) := by decide +kernel
theorem d_D_sumOver_59 : decode b_D_sumOver 59 = .ok (.lload_n 3, 1) := by decide +kernel
theorem d_D_sumOver_60 : decode b_D_sumOver 60 = .ok (.invokestatic 158, 3) := by decide +kernel
theorem d_D_sumOver_63 : decode b_D_sumOver 63 = .ok (.lreturn, 1) := by decide +kernel
theorem d_D_productOver_0 : decode b_D_productOver 0 = .ok (.iload_n 0, 1) := by decide +kernel
theorem d_D_productOver_1 : decode b_D_productOver 1 = .ok (.tableswitch 57 0 2 #[27, 33, 39], 27) := by decide +kernel
theorem d_D_productOver_28 : decode b_D_productOver 28 = .ok (.lload_n 1, 1) := by decide +kernel
theorem d_D_productOver_29 : decode b_D_productOver 29 = .ok (.lload_n 3, 1) := by decide +kernel
theorem d_D_productOver_30 : decode b_D_productOver 30 = .ok (.invokestatic 161, 3) := by decide +kernel
theorem d_D_productOver_33 : decode b_D_productOver 33 = .ok (.lreturn, 1) := by decide +kernel
theorem d_D_productOver_34 : decode b_D_productOver 34 = .ok (.lload_n 1, 1) := by decide +kernel
theorem d_D_productOver_35 : decode b_D_productOver 35 = .ok (.lload_n 3, 1) := by decide +kernel
theorem d_D_productOver_36 : decode b_D_productOver 36 = .ok (.invokestatic 149, 3) := by decide +kernel
theorem d_D_productOver_39 : decode b_D_productOver 39 = .ok (.lreturn, 1) := by decide +kernel
theorem d_D_productOver_40 : decode b_D_productOver 40 = .ok (.lload_n 1, 1) := by decide +kernel
theorem d_D_productOver_41 : decode b_D_productOver 41 = .ok (.lconst 0, 1) := by decide +kernel
theorem d_D_productOver_42 : decode b_D_productOver 42 = .ok (.lcmp, 1) := by decide +kernel
theorem d_D_productOver_43 : decode b_D_productOver 43 = .ok (.ifCond .eq 13, 3) := by decide +kernel
theorem d_D_productOver_46 : decode b_D_productOver 46 = .ok (.lload_n 3, 1) := by decide +kernel
theorem d_D_productOver_47 : decode b_D_productOver 47 = .ok (.lconst 0, 1) := by decide +kernel
theorem d_D_productOver_48 : decode b_D_productOver 48 = .ok (.lcmp, 1) := by decide +kernel
theorem d_D_productOver_49 : decode b_D_productOver 49 = .ok (.ifCond .eq 7, 3) := by decide +kernel
theorem d_D_productOver_52 : decode b_D_productOver 52 = .ok (.lconst 1, 1) := by decide +kernel
theorem d_D_productOver_53 : decode b_D_productOver 53 = .ok (.goto 4, 3) := by decide +kernel
theorem d_D_productOver_56 : decode b_D_productOver 56 = .ok (.lconst 0, 1) := by decide +kernel
theorem d_D_productOver_57 : decode b_D_productOver 57 = .ok (.lreturn, 1) := by decide +kernel
theorem d_D_productOver_58 : decode b_D_productOver 58 = .ok (.lload_n 1, 1) := by decide +kernel
theorem d_D_productOver_59 : decode b_D_productOver 59 = .ok (.lload_n 3, 1) := by decide +kernel
theorem d_D_productOver_60 : decode b_D_productOver 60 = .ok (.invokestatic 153, 3) := by decide +kernel
theorem d_D_productOver_63 : decode b_D_productOver 63 = .ok (.lreturn, 1) := by decide +kernel
theorem d_D_plus_0 : decode b_D_plus 0 = .ok (.lload_n 0, 1) := by decide +kernel
theorem d_D_plus_1 : decode b_D_plus 1 = .ok (.lload_n 2, 1) := by decide +kernel
theorem d_D_plus_2 : decode b_D_plus 2 = .ok (.ladd, 1) := by decide +kernel
theorem d_D_plus_3 : decode b_D_plus 3 = .ok (.lstore 4, 2) := by decide +kernel
theorem d_D_plus_5 : decode b_D_plus 5 = .ok (.lload 4, 2) := by decide +kernel
theorem d_D_plus_7 : decode b_D_plus 7 = .ok (.invokestatic 164, 3) := by decide +kernel
theorem d_D_plus_10 : decode b_D_plus 10 = .ok (.ifCond .ne 13, 3) := by decide +kernel
theorem d_D_plus_13 : decode b_D_plus 13 = .ok (.new 168, 3) := by decide +kernel
theorem d_D_plus_16 : decode b_D_plus 16 = .ok (.dup, 1) := by decide +kernel
theorem d_D_plus_17 : decode b_D_plus 17 = .ok (.ldc 170, 2) := by decide +kernel
theorem d_D_plus_19 : decode b_D_plus 19 = .ok (.invokespecial 172, 3) := by decide +kernel
theorem d_D_plus_22 : decode b_D_plus 22 = .ok (.athrow, 1) := by decide +kernel
theorem d_D_plus_23 : decode b_D_plus 23 = .ok (.lload 4, 2) := by decide +kernel
theorem d_D_plus_25 : decode b_D_plus 25 = .ok (.lreturn, 1) := by decide +kernel
theorem d_D_times_0 : decode b_D_times 0 = .ok (.lload_n 0, 1) := by decide +kernel
theorem d_D_times_1 : decode b_D_times 1 = .ok (.lconst 0, 1) := by decide +kernel
theorem d_D_times_2 : decode b_D_times 2 = .ok (.lcmp, 1) := by decide +kernel
theorem d_D_times_3 : decode b_D_times 3 = .ok (.ifCond .eq 29, 3) := by decide +kernel
theorem d_D_times_6 : decode b_D_times 6 = .ok (.lload_n 2, 1) := by decide +kernel
theorem d_D_times_7 : decode b_D_times 7 = .ok (.invokestatic 175, 3) := by decide +kernel
theorem d_D_times_10 : decode b_D_times 10 = .ok (.ldc2_w 179, 3) := by decide +kernel
theorem d_D_times_13 : decode b_D_times 13 = .ok (.lload_n 0, 1) := by decide +kernel
theorem d_D_times_14 : decode b_D_times 14 = .ok (.invokestatic 175, 3) := by decide +kernel
theorem d_D_times_17 : decode b_D_times 17 = .ok (.ldiv, 1) := by decide +kernel
theorem d_D_times_18 : decode b_D_times 18 = .ok (.lcmp, 1) := by decide +kernel
theorem d_D_times_19 : decode b_D_times 19 = .ok (.ifCond .le 13, 3) := by decide +kernel
theorem d_D_times_22 : decode b_D_times 22 = .ok (.new 168, 3) := by decide +kernel
theorem d_D_times_25 : decode b_D_times 25 = .ok (.dup, 1) := by decide +kernel
theorem d_D_times_26 : decode b_D_times 26 = .ok (.ldc 181, 2) := by decide +kernel
theorem d_D_times_28 : decode b_D_times 28 = .ok (.invokespecial 172, 3) := by decide +kernel
theorem d_D_times_31 : decode b_D_times 31 = .ok (.athrow, 1) := by decide +kernel
theorem d_D_times_32 : decode b_D_times 32 = .ok (.lload_n 0, 1) := by decide +kernel
theorem d_D_times_33 : decode b_D_times 33 = .ok (.lload_n 2, 1) := by decide +kernel
theorem d_D_times_34 : decode b_D_times 34 = .ok (.lmul, 1) := by decide +kernel
theorem d_D_times_35 : decode b_D_times 35 = .ok (.lreturn, 1) := by decide +kernel
theorem d_D_isSelected_0 : decode b_D_isSelected 0 = .ok (.iload_n 0, 1) := by decide +kernel
theorem d_D_isSelected_1 : decode b_D_isSelected 1 = .ok (.tableswitch 79 0 3 #[31, 44, 57, 68], 31) := by decide +kernel
theorem d_D_isSelected_32 : decode b_D_isSelected 32 = .ok (.lload_n 3, 1) := by decide +kernel
theorem d_D_isSelected_33 : decode b_D_isSelected 33 = .ok (.lload 5, 2) := by decide +kernel
theorem d_D_isSelected_35 : decode b_D_isSelected 35 = .ok (.lcmp, 1) := by decide +kernel
theorem d_D_isSelected_36 : decode b_D_isSelected 36 = .ok (.ifCond .ge 7, 3) := by decide +kernel
theorem d_D_isSelected_39 : decode b_D_isSelected 39 = .ok (.iconst 1, 1) := by decide +kernel
theorem d_D_isSelected_40 : decode b_D_isSelected 40 = .ok (.goto 4, 3) := by decide +kernel
theorem d_D_isSelected_43 : decode b_D_isSelected 43 = .ok (.iconst 0, 1) := by decide +kernel
theorem d_D_isSelected_44 : decode b_D_isSelected 44 = .ok (.ireturn, 1) := by decide +kernel
theorem d_D_isSelected_45 : decode b_D_isSelected 45 = .ok (.lload_n 3, 1) := by decide +kernel
theorem d_D_isSelected_46 : decode b_D_isSelected 46 = .ok (.lload 5, 2) := by decide +kernel
theorem d_D_isSelected_48 : decode b_D_isSelected 48 = .ok (.lcmp, 1) := by decide +kernel
theorem d_D_isSelected_49 : decode b_D_isSelected 49 = .ok (.ifCond .le 7, 3) := by decide +kernel
theorem d_D_isSelected_52 : decode b_D_isSelected 52 = .ok (.iconst 1, 1) := by decide +kernel
theorem d_D_isSelected_53 : decode b_D_isSelected 53 = .ok (.goto 4, 3) := by decide +kernel
theorem d_D_isSelected_56 : decode b_D_isSelected 56 = .ok (.iconst 0, 1) := by decide +kernel
theorem d_D_isSelected_57 : decode b_D_isSelected 57 = .ok (.ireturn, 1) := by decide +kernel
theorem d_D_isSelected_58 : decode b_D_isSelected 58 = .ok (.iload_n 1, 1) := by decide +kernel
theorem d_D_isSelected_59 : decode b_D_isSelected 59 = .ok (.iload_n 2, 1) := by decide +kernel
theorem d_D_isSelected_60 : decode b_D_isSelected 60 = .ok (.if_icmp .ge 7, 3) := by decide +kernel
theorem d_D_isSelected_63 : decode b_D_isSelected 63 = .ok (.iconst 1, 1) := by decide +kernel
theorem d_D_isSelected_64 : decode b_D_isSelected 64 = .ok (.goto 4, 3) := by decide +kernel
theorem d_D_isSelected_67 : decode b_D_isSelected 67 = .ok (.iconst 0, 1) := by decide +kernel
theorem d_D_isSelected_68 : decode b_D_isSelected 68 = .ok (.ireturn, 1) := by decide +kernel
theorem d_D_isSelected_69 : decode b_D_isSelected 69 = .ok (.iload_n 1, 1) := by decide +kernel
theorem d_D_isSelected_70 : decode b_D_isSelected 70 = .ok (.iload_n 2, 1) := by decide +kernel
theorem d_D_isSelected_71 : decode b_D_isSelected 71 = .ok (.if_icmp .le 7, 3) := by decide +kernel
theorem d_D_isSelected_74 : decode b_D_isSelected 74 = .ok (.iconst 1, 1) := by decide +kernel
theorem d_D_isSelected_75 : decode b_D_isSelected 75 = .ok (.goto 4, 3) := by decide +kernel
theorem d_D_isSelected_78 : decode b_D_isSelected 78 = .ok (.iconst 0, 1) := by decide +kernel
theorem d_D_isSelected_79 : decode b_D_isSelected 79 = .ok (.ireturn, 1) := by decide +kernel
theorem d_D_isSelected_80 : decode b_D_isSelected 80 = .ok (.iload_n 1, 1) := by decide +kernel
theorem d_D_isSelected_81 : decode b_D_isSelected 81 = .ok (.iload_n 2, 1) := by decide +kernel
theorem d_D_isSelected_82 : decode b_D_isSelected 82 = .ok (.if_icmp .ne 7, 3) := by decide +kernel
theorem d_D_isSelected_85 : decode b_D_isSelected 85 = .ok (.iconst 1, 1) := by decide +kernel
theorem d_D_isSelected_86 : decode b_D_isSelected 86 = .ok (.goto 4, 3) := by decide +kernel
theorem d_D_isSelected_89 : decode b_D_isSelected 89 = .ok (.iconst 0, 1) := by decide +kernel
theorem d_D_isSelected_90 : decode b_D_isSelected 90 = .ok (.ireturn, 1) := by decide +kernel
theorem d_D_enterNextLevel_0 : decode b_D_enterNextLevel 0 = .ok (.iconst 0, 1) := by decide +kernel
theorem d_D_enterNextLevel_1 : decode b_D_enterNextLevel 1 = .ok (.istore_n 3, 1) := by decide +kernel
theorem d_D_enterNextLevel_2 : decode b_D_enterNextLevel 2 = .ok (.iload_n 3, 1) := by decide +kernel
theorem d_D_enterNextLevel_3 : decode b_D_enterNextLevel 3 = .ok (.aload_n 1, 1) := by decide +kernel
theorem d_D_enterNextLevel_4 : decode b_D_enterNextLevel 4 = .ok (.getfield 58, 3) := by decide +kernel
theorem d_D_enterNextLevel_7 : decode b_D_enterNextLevel 7 = .ok (.if_icmp .ge 39, 3) := by decide +kernel
theorem d_D_enterNextLevel_10 : decode b_D_enterNextLevel 10 = .ok (.aload_n 0, 1) := by decide +kernel
theorem d_D_enterNextLevel_11 : decode b_D_enterNextLevel 11 = .ok (.iconst 0, 1) := by decide +kernel
theorem d_D_enterNextLevel_12 : decode b_D_enterNextLevel 12 = .ok (.iload_n 3, 1) := by decide +kernel
theorem d_D_enterNextLevel_13 : decode b_D_enterNextLevel 13 = .ok (.invokevirtual 43, 3) := by decide +kernel
theorem d_D_enterNextLevel_16 : decode b_D_enterNextLevel 16 = .ok (.ifCond .eq 24, 3) := by decide +kernel
theorem d_D_enterNextLevel_19 : decode b_D_enterNextLevel 19 = .ok (.aload_n 0, 1) := by decide +kernel
theorem d_D_enterNextLevel_20 : decode b_D_enterNextLevel 20 = .ok (.iconst 0, 1) := by decide +kernel
theorem d_D_enterNextLevel_21 : decode b_D_enterNextLevel 21 = .ok (.iload_n 3, 1) := by decide +kernel
theorem d_D_enterNextLevel_22 : decode b_D_enterNextLevel 22 = .ok (.invokevirtual 54, 3) := by decide +kernel
theorem d_D_enterNextLevel_25 : decode b_D_enterNextLevel 25 = .ok (.iload_n 2, 1) := by decide +kernel
theorem d_D_enterNextLevel_26 : decode b_D_enterNextLevel 26 = .ok (.i2l, 1) := by decide +kernel
theorem d_D_enterNextLevel_27 : decode b_D_enterNextLevel 27 = .ok (.lcmp, 1) := by decide +kernel
theorem d_D_enterNextLevel_28 : decode b_D_enterNextLevel 28 = .ok (.ifCond .ne 12, 3) := by decide +kernel
theorem d_D_enterNextLevel_31 : decode b_D_enterNextLevel 31 = .ok (.aload_n 0, 1) := by decide +kernel
theorem d_D_enterNextLevel_32 : decode b_D_enterNextLevel 32 = .ok (.aload_n 1, 1) := by decide +kernel
theorem d_D_enterNextLevel_33 : decode b_D_enterNextLevel 33 = .ok (.iload_n 3, 1) := by decide +kernel
theorem d_D_enterNextLevel_34 : decode b_D_enterNextLevel 34 = .ok (.iload_n 2, 1) := by decide +kernel
theorem d_D_enterNextLevel_35 : decode b_D_enterNextLevel 35 = .ok (.iconst 1, 1) := by decide +kernel
theorem d_D_enterNextLevel_36 : decode b_D_enterNextLevel 36 = .ok (.iadd, 1) := by decide +kernel
theorem d_D_enterNextLevel_37 : decode b_D_enterNextLevel 37 = .ok (.invokestatic 183, 3) := by decide +kernel
theorem d_D_enterNextLevel_40 : decode b_D_enterNextLevel 40 = .ok (.iinc 3 1, 3) := by decide +kernel
theorem d_D_enterNextLevel_43 : decode b_D_enterNextLevel 43 = .ok (.goto (-41), 3) := by decide +kernel
theorem d_D_enterNextLevel_46 : decode b_D_enterNextLevel 46 = .ok (.return_, 1) := by decide +kernel
theorem d_D_enterNeighbours_0 : decode b_D_enterNeighbours 0 = .ok (.iconst 0, 1) := by decide +kernel
theorem d_D_enterNeighbours_1 : decode b_D_enterNeighbours 1 = .ok (.istore 4, 2) := by decide +kernel
theorem d_D_enterNeighbours_3 : decode b_D_enterNeighbours 3 = .ok (.iload 4, 2) := by decide +kernel
theorem d_D_enterNeighbours_5 : decode b_D_enterNeighbours 5 = .ok (.aload_n 1, 1) := by decide +kernel
theorem d_D_enterNeighbours_6 : decode b_D_enterNeighbours 6 = .ok (.getfield 62, 3) := by decide +kernel
theorem d_D_enterNeighbours_9 : decode b_D_enterNeighbours 9 = .ok (.if_icmp .ge 38, 3) := by decide +kernel
theorem d_D_enterNeighbours_12 : decode b_D_enterNeighbours 12 = .ok (.aload_n 1, 1) := by decide +kernel
theorem d_D_enterNeighbours_13 : decode b_D_enterNeighbours 13 = .ok (.iload_n 2, 1) := by decide +kernel
theorem d_D_enterNeighbours_14 : decode b_D_enterNeighbours 14 = .ok (.iload 4, 2) := by decide +kernel
theorem d_D_enterNeighbours_16 : decode b_D_enterNeighbours 16 = .ok (.invokevirtual 43, 3) := by decide +kernel
theorem d_D_enterNeighbours_19 : decode b_D_enterNeighbours 19 = .ok (.ifCond .eq 22, 3) := by decide +kernel
theorem d_D_enterNeighbours_22 : decode b_D_enterNeighbours 22 = .ok (.aload_n 0, 1) := by decide +kernel
theorem d_D_enterNeighbours_23 : decode b_D_enterNeighbours 23 = .ok (.iconst 0, 1) := by decide +kernel
theorem d_D_enterNeighbours_24 : decode b_D_enterNeighbours 24 = .ok (.iload 4, 2) := by decide +kernel
theorem d_D_enterNeighbours_26 : decode b_D_enterNeighbours 26 = .ok (.invokevirtual 43, 3) := by decide +kernel
theorem d_D_enterNeighbours_29 : decode b_D_enterNeighbours 29 = .ok (.ifCond .ne 12, 3) := by decide +kernel
theorem d_D_enterNeighbours_32 : decode b_D_enterNeighbours 32 = .ok (.aload_n 0, 1) := by decide +kernel
theorem d_D_enterNeighbours_33 : decode b_D_enterNeighbours 33 = .ok (.iconst 0, 1) := by decide +kernel
theorem d_D_enterNeighbours_34 : decode b_D_enterNeighbours 34 = .ok (.iload 4, 2) := by decide +kernel
theorem d_D_enterNeighbours_36 : decode b_D_enterNeighbours 36 = .ok (.iload_n 3, 1) := by decide +kernel
theorem d_D_enterNeighbours_37 : decode b_D_enterNeighbours 37 = .ok (.i2l, 1) := by decide +kernel
theorem d_D_enterNeighbours_38 : decode b_D_enterNeighbours 38 = .ok (.invokevirtual 39, 3) := by decide +kernel
theorem d_D_enterNeighbours_41 : decode b_D_enterNeighbours 41 = .ok (.iinc 4 1, 3) := by decide +kernel
theorem d_D_enterNeighbours_44 : decode b_D_enterNeighbours 44 = .ok (.goto (-41), 3) := by decide +kernel
theorem d_D_enterNeighbours_47 : decode b_D_enterNeighbours 47 = .ok (.return_, 1) := by decide +kernel
theorem d_D_shortenOver_0 : decode b_D_shortenOver 0 = .ok (.iconst 0, 1) := by decide +kernel
theorem d_D_shortenOver_1 : decode b_D_shortenOver 1 = .ok (.istore_n 2, 1) := by decide +kernel
theorem d_D_shortenOver_2 : decode b_D_shortenOver 2 = .ok (.iload_n 2, 1) := by decide +kernel
theorem d_D_shortenOver_3 : decode b_D_shortenOver 3 = .ok (.aload_n 0, 1) := by decide +kernel
theorem d_D_shortenOver_4 : decode b_D_shortenOver 4 = .ok (.getfield 58, 3) := by decide +kernel
theorem d_D_shortenOver_7 : decode b_D_shortenOver 7 = .ok (.if_icmp .ge 70, 3) := by decide +kernel
theorem d_D_shortenOver_10 : decode b_D_shortenOver 10 = .ok (.iconst 0, 1) := by decide +kernel
theorem d_D_shortenOver_11 : decode b_D_shortenOver 11 = .ok (.istore_n 3, 1) := by decide +kernel
theorem d_D_shortenOver_12 : decode b_D_shortenOver 12 = .ok (.iload_n 3, 1) := by decide +kernel
theorem d_D_shortenOver_13 : decode b_D_shortenOver 13 = .ok (.aload_n 0, 1) := by decide +kernel
theorem d_D_shortenOver_14 : decode b_D_shortenOver 14 = .ok (.getfield 62, 3) := by decide +kernel
theorem d_D_shortenOver_17 : decode b_D_shortenOver 17 = .ok (.if_icmp .ge 54, 3) := by decide +kernel
theorem d_D_shortenOver_20 : decode b_D_shortenOver 20 = .ok (.aload_n 0, 1) := by decide +kernel
theorem d_D_shortenOver_21 : decode b_D_shortenOver 21 = .ok (.iload_n 2, 1) := by decide +kernel
theorem d_D_shortenOver_22 : decode b_D_shortenOver 22 = .ok (.iload_n 1, 1) := by decide +kernel
theorem d_D_shortenOver_23 : decode b_D_shortenOver 23 = .ok (.invokevirtual 43, 3) := by decide +kernel
theorem d_D_shortenOver_26 : decode b_D_shortenOver 26 = .ok (.ifCond .eq 39, 3) := by decide +kernel
theorem d_D_shortenOver_29 : decode b_D_shortenOver 29 = .ok (.aload_n 0, 1) := by decide +kernel
theorem d_D_shortenOver_30 : decode b_D_shortenOver 30 = .ok (.iload_n 1, 1) := by decide +kernel
theorem d_D_shortenOver_31 : decode b_D_shortenOver 31 = .ok (.iload_n 3, 1) := by decide +kernel
theorem d_D_shortenOver_32 : decode b_D_shortenOver 32 = .ok (.invokevirtual 43, 3) := by decide +kernel
theorem d_D_shortenOver_35 : decode b_D_shortenOver 35 = .ok (.ifCond .eq 30, 3) := by decide +kernel
theorem d_D_shortenOver_38 : decode b_D_shortenOver 38 = .ok (.iconst 1, 1) := by decide +kernel
theorem d_D_shortenOver_39 : decode b_D_shortenOver 39 = .ok (.aload_n 0, 1) := by decide +kernel
theorem d_D_shortenOver_40 : decode b_D_shortenOver 40 = .ok (.iload_n 2, 1) := by decide +kernel
theorem d_D_shortenOver_41 : decode b_D_shortenOver 41 = .ok (.iload_n 1, 1) := by decide +kernel
theorem d_D_shortenOver_42 : decode b_D_shortenOver 42 = .ok (.invokevirtual 54, 3) := by decide +kernel
theorem d_D_shortenOver_45 : decode b_D_shortenOver 45 = .ok (.aload_n 0, 1) := by decide +kernel
theorem d_D_shortenOver_46 : decode b_D_shortenOver 46 = .ok (.iload_n 1, 1) := by decide +kernel
theorem d_D_shortenOver_47 : decode b_D_shortenOver 47 = .ok (.iload_n 3, 1) := by decide +kernel
theorem d_D_shortenOver_48 : decode b_D_shortenOver 48 = .ok (.invokevirtual 54, 3) := by decide +kernel
theorem d_D_shortenOver_51 : decode b_D_shortenOver 51 = .ok (.invokestatic 108, 3) := by decide +kernel
theorem d_D_shortenOver_54 : decode b_D_shortenOver 54 = .ok (.lstore 4, 2) := by decide +kernel
theorem d_D_shortenOver_56 : decode b_D_shortenOver 56 = .ok (.aload_n 0, 1) := by decide +kernel
theorem d_D_shortenOver_57 : decode b_D_shortenOver 57 = .ok (.iload_n 2, 1) := by decide +kernel
theorem d_D_shortenOver_58 : decode b_D_shortenOver 58 = .ok (.iload_n 3, 1) := by decide +kernel
theorem d_D_shortenOver_59 : decode b_D_shortenOver 59 = .ok (.lload 4, 2) := by decide +kernel
theorem d_D_shortenOver_61 : decode b_D_shortenOver 61 = .ok (.iconst 1, 1) := by decide +kernel
theorem d_D_shortenOver_62 : decode b_D_shortenOver 62 = .ok (.invokestatic 119, 3) := by decide +kernel
theorem d_D_shortenOver_65 : decode b_D_shortenOver 65 = .ok (.iinc 3 1, 3) := by decide +kernel
theorem d_D_shortenOver_68 : decode b_D_shortenOver 68 = .ok (.goto (-56), 3) := by decide +kernel
theorem d_D_shortenOver_71 : decode b_D_shortenOver 71 = .ok (.iinc 2 1, 3) := by decide +kernel
theorem d_D_shortenOver_74 : decode b_D_shortenOver 74 = .ok (.goto (-72), 3) := by decide +kernel
theorem d_D_shortenOver_77 : decode b_D_shortenOver 77 = .ok (.return_, 1) := by decide +kernel
theorem d_D_spreadLeastVertices_0 : decode b_D_spreadLeastVertices 0 = .ok (.iconst 0, 1) := by decide +kernel
theorem d_D_spreadLeastVertices_1 : decode b_D_spreadLeastVertices 1 = .ok (.istore_n 2, 1) := by decide +kernel
theorem d_D_spreadLeastVertices_2 : decode b_D_spreadLeastVertices 2 = .ok (.iload_n 2, 1) := by decide +kernel
theorem d_D_spreadLeastVertices_3 : decode b_D_spreadLeastVertices 3 = .ok (.aload_n 1, 1) := by decide +kernel
theorem d_D_spreadLeastVertices_4 : decode b_D_spreadLeastVertices 4 = .ok (.getfield 58, 3) := by decide +kernel
theorem d_D_spreadLeastVertices_7 : decode b_D_spreadLeastVertices 7 = .ok (.if_icmp .ge 67, 3) := by decide +kernel
theorem d_D_spreadLeastVertices_10 : decode b_D_spreadLeastVertices 10 = .ok (.iconst 0, 1) := by decide +kernel
theorem d_D_spreadLeastVertices_11 : decode b_D_spreadLeastVertices 11 = .ok (.istore_n 3, 1) := by decide +kernel
theorem d_D_spreadLeastVertices_12 : decode b_D_spreadLeastVertices 12 = .ok (.iload_n 3, 1) := by decide +kernel
theorem d_D_spreadLeastVertices_13 : decode b_D_spreadLeastVertices 13 = .ok (.aload_n 1, 1) := by decide +kernel
theorem d_D_spreadLeastVertices_14 : decode b_D_spreadLeastVertices 14 = .ok (.getfield 62, 3) := by decide +kernel
theorem d_D_spreadLeastVertices_17 : decode b_D_spreadLeastVertices 17 = .ok (.if_icmp .ge 51, 3) := by decide +kernel
theorem d_D_spreadLeastVertices_20 : decode b_D_spreadLeastVertices 20 = .ok (.aload_n 1, 1) := by decide +kernel
theorem d_D_spreadLeastVertices_21 : decode b_D_spreadLeastVertices 21 = .ok (.iload_n 2, 1) := by decide +kernel
theorem d_D_spreadLeastVertices_22 : decode b_D_spreadLeastVertices 22 = .ok (.iload_n 3, 1) := by decide +kernel
theorem d_D_spreadLeastVertices_23 : decode b_D_spreadLeastVertices 23 = .ok (.invokevirtual 43, 3) := by decide +kernel
theorem d_D_spreadLeastVertices_26 : decode b_D_spreadLeastVertices 26 = .ok (.ifCond .eq 36, 3) := by decide +kernel
theorem d_D_spreadLeastVertices_29 : decode b_D_spreadLeastVertices 29 = .ok (.aload_n 0, 1) := by decide +kernel
theorem d_D_spreadLeastVertices_30 : decode b_D_spreadLeastVertices 30 = .ok (.iconst 0, 1) := by decide +kernel
theorem d_D_spreadLeastVertices_31 : decode b_D_spreadLeastVertices 31 = .ok (.iload_n 2, 1) := by decide +kernel
theorem d_D_spreadLeastVertices_32 : decode b_D_spreadLeastVertices 32 = .ok (.invokevirtual 54, 3) := by decide +kernel
theorem d_D_spreadLeastVertices_35 : decode b_D_spreadLeastVertices 35 = .ok (.aload_n 0, 1) := by decide +kernel
theorem d_D_spreadLeastVertices_36 : decode b_D_spreadLeastVertices 36 = .ok (.iconst 0, 1) := by decide +kernel
theorem d_D_spreadLeastVertices_37 : decode b_D_spreadLeastVertices 37 = .ok (.iload_n 3, 1) := by decide +kernel
theorem d_D_spreadLeastVertices_38 : decode b_D_spreadLeastVertices 38 = .ok (.invokevirtual 54, 3) := by decide +kernel
theorem d_D_spreadLeastVertices_41 : decode b_D_spreadLeastVertices 41 = .ok (.invokestatic 153, 3) := by decide +kernel
theorem d_D_spreadLeastVertices_44 : decode b_D_spreadLeastVertices 44 = .ok (.lstore 4, 2) := by decide +kernel
theorem d_D_spreadLeastVertices_46 : decode b_D_spreadLeastVertices 46 = .ok (.aload_n 0, 1) := by decide +kernel
theorem d_D_spreadLeastVertices_47 : decode b_D_spreadLeastVertices 47 = .ok (.iconst 0, 1) := by decide +kernel
theorem d_D_spreadLeastVertices_48 : decode b_D_spreadLeastVertices 48 = .ok (.iload_n 2, 1) := by decide +kernel
theorem d_D_spreadLeastVertices_49 : decode b_D_spreadLeastVertices 49 = .ok (.lload 4, 2) := by decide +kernel
theorem d_D_spreadLeastVertices_51 : decode b_D_spreadLeastVertices 51 = .ok (.invokevirtual 39, 3) := by decide +kernel
theorem d_D_spreadLeastVertices_54 : decode b_D_spreadLeastVertices 54 = .ok (.aload_n 0, 1) := by decide +kernel
theorem d_D_spreadLeastVertices_55 : decode b_D_spreadLeastVertices 55 = .ok (.iconst 0, 1) := by decide +kernel
theorem d_D_spreadLeastVertices_56 : decode b_D_spreadLeastVertices 56 = .ok (.iload_n 3, 1) := by decide +kernel
theorem d_D_spreadLeastVertices_57 : decode b_D_spreadLeastVertices 57 = .ok (.lload 4, 2) := by decide +kernel
theorem d_D_spreadLeastVertices_59 : decode b_D_spreadLeastVertices 59 = .ok (.invokevirtual 39, 3) := by decide +kernel
theorem d_D_spreadLeastVertices_62 : decode b_D_spreadLeastVertices 62 = .ok (.iinc 3 1, 3) := by decide +kernel
theorem d_D_spreadLeastVertices_65 : decode b_D_spreadLeastVertices 65 = .ok (.goto (-53), 3) := by decide +kernel
theorem d_D_spreadLeastVertices_68 : decode b_D_spreadLeastVertices 68 = .ok (.iinc 2 1, 3) := by decide +kernel
theorem d_D_spreadLeastVertices_71 : decode b_D_spreadLeastVertices 71 = .ok (.goto (-69), 3) := by decide +kernel
theorem d_D_spreadLeastVertices_74 : decode b_D_spreadLeastVertices 74 = .ok (.return_, 1) := by decide +kernel
theorem d_D_isValue_0 : decode b_D_isValue 0 = .ok (.lload_n 0, 1) := by decide +kernel
theorem d_D_isValue_1 : decode b_D_isValue 1 = .ok (.ldc2_w 187, 3) := by decide +kernel
theorem d_D_isValue_4 : decode b_D_isValue 4 = .ok (.lcmp, 1) := by decide +kernel
theorem d_D_isValue_5 : decode b_D_isValue 5 = .ok (.ifCond .lt 15, 3) := by decide +kernel
theorem d_D_isValue_8 : decode b_D_isValue 8 = .ok (.lload_n 0, 1) := by decide +kernel
theorem d_D_isValue_9 : decode b_D_isValue 9 = .ok (.ldc2_w 179, 3) := by decide +kernel
theorem d_D_isValue_12 : decode b_D_isValue 12 = .ok (.lcmp, 1) := by decide +kernel
theorem d_D_isValue_13 : decode b_D_isValue 13 = .ok (.ifCond .gt 7, 3) := by decide +kernel
theorem d_D_isValue_16 : decode b_D_isValue 16 = .ok (.iconst 1, 1) := by decide +kernel
theorem d_D_isValue_17 : decode b_D_isValue 17 = .ok (.goto 4, 3) := by decide +kernel
theorem d_D_isValue_20 : decode b_D_isValue 20 = .ok (.iconst 0, 1) := by decide +kernel
theorem d_D_isValue_21 : decode b_D_isValue 21 = .ok (.ireturn, 1) := by decide +kernel
theorem d_D_requireRegister_0 : decode b_D_requireRegister 0 = .ok (.iload_n 0, 1) := by decide +kernel
theorem d_D_requireRegister_1 : decode b_D_requireRegister 1 = .ok (.ifCond .lt 9, 3) := by decide +kernel
theorem d_D_requireRegister_4 : decode b_D_requireRegister 4 = .ok (.iload_n 0, 1) := by decide +kernel
theorem d_D_requireRegister_5 : decode b_D_requireRegister 5 = .ok (.bipush 6, 2) := by decide +kernel
theorem d_D_requireRegister_7 : decode b_D_requireRegister 7 = .ok (.if_icmp .lt 13, 3) := by decide +kernel
theorem d_D_requireRegister_10 : decode b_D_requireRegister 10 = .ok (.new 189, 3) := by decide +kernel
theorem d_D_requireRegister_13 : decode b_D_requireRegister 13 = .ok (.dup, 1) := by decide +kernel
theorem d_D_requireRegister_14 : decode b_D_requireRegister 14 = .ok (.ldc 191, 2) := by decide +kernel
theorem d_D_requireRegister_16 : decode b_D_requireRegister 16 = .ok (.invokespecial 193, 3) := by decide +kernel
theorem d_D_requireRegister_19 : decode b_D_requireRegister 19 = .ok (.athrow, 1) := by decide +kernel
theorem d_D_requireRegister_20 : decode b_D_requireRegister 20 = .ok (.return_, 1) := by decide +kernel
theorem d_D_requireSemiring_0 : decode b_D_requireSemiring 0 = .ok (.iload_n 0, 1) := by decide +kernel
theorem d_D_requireSemiring_1 : decode b_D_requireSemiring 1 = .ok (.ifCond .lt 8, 3) := by decide +kernel
theorem d_D_requireSemiring_4 : decode b_D_requireSemiring 4 = .ok (.iload_n 0, 1) := by decide +kernel
theorem d_D_requireSemiring_5 : decode b_D_requireSemiring 5 = .ok (.iconst 3, 1) := by decide +kernel
theorem d_D_requireSemiring_6 : decode b_D_requireSemiring 6 = .ok (.if_icmp .le 13, 3) := by decide +kernel
theorem d_D_requireSemiring_9 : decode b_D_requireSemiring 9 = .ok (.new 189, 3) := by decide +kernel
theorem d_D_requireSemiring_12 : decode b_D_requireSemiring 12 = .ok (.dup, 1) := by decide +kernel
theorem d_D_requireSemiring_13 : decode b_D_requireSemiring 13 = .ok (.ldc 194, 2) := by decide +kernel
theorem d_D_requireSemiring_15 : decode b_D_requireSemiring 15 = .ok (.invokespecial 193, 3) := by decide +kernel
theorem d_D_requireSemiring_18 : decode b_D_requireSemiring 18 = .ok (.athrow, 1) := by decide +kernel
theorem d_D_requireSemiring_19 : decode b_D_requireSemiring 19 = .ok (.return_, 1) := by decide +kernel
theorem d_D_requireOperands_0 : decode b_D_requireOperands 0 = .ok (.iload_n 0, 1) := by decide +kernel
theorem d_D_requireOperands_1 : decode b_D_requireOperands 1 = .ok (.invokestatic 20, 3) := by decide +kernel
theorem d_D_requireOperands_4 : decode b_D_requireOperands 4 = .ok (.iload_n 1, 1) := by decide +kernel
theorem d_D_requireOperands_5 : decode b_D_requireOperands 5 = .ok (.invokestatic 20, 3) := by decide +kernel
theorem d_D_requireOperands_8 : decode b_D_requireOperands 8 = .ok (.iload_n 2, 1) := by decide +kernel
theorem d_D_requireOperands_9 : decode b_D_requireOperands 9 = .ok (.invokestatic 20, 3) := by decide +kernel
theorem d_D_requireOperands_12 : decode b_D_requireOperands 12 = .ok (.iload_n 3, 1) := by decide +kernel
theorem d_D_requireOperands_13 : decode b_D_requireOperands 13 = .ok (.invokestatic 116, 3) := by decide +kernel
theorem d_D_requireOperands_16 : decode b_D_requireOperands 16 = .ok (.return_, 1) := by decide +kernel
theorem d_D_requireMask_0 : decode b_D_requireMask 0 = .ok (.iload_n 0, 1) := by decide +kernel
theorem d_D_requireMask_1 : decode b_D_requireMask 1 = .ok (.iconst (-1), 1) := by decide +kernel
theorem d_D_requireMask_2 : decode b_D_requireMask 2 = .ok (.if_icmp .eq 7, 3) := by decide +kernel
theorem d_D_requireMask_5 : decode b_D_requireMask 5 = .ok (.iload_n 0, 1) := by decide +kernel
theorem d_D_requireMask_6 : decode b_D_requireMask 6 = .ok (.invokestatic 20, 3) := by decide +kernel
theorem d_D_requireMask_9 : decode b_D_requireMask 9 = .ok (.return_, 1) := by decide +kernel
theorem d_D_requireHow_0 : decode b_D_requireHow 0 = .ok (.iload_n 0, 1) := by decide +kernel
theorem d_D_requireHow_1 : decode b_D_requireHow 1 = .ok (.ifCond .lt 8, 3) := by decide +kernel
theorem d_D_requireHow_4 : decode b_D_requireHow 4 = .ok (.iload_n 0, 1) := by decide +kernel
theorem d_D_requireHow_5 : decode b_D_requireHow 5 = .ok (.iload_n 1, 1) := by decide +kernel
theorem d_D_requireHow_6 : decode b_D_requireHow 6 = .ok (.if_icmp .le 13, 3) := by decide +kernel
theorem d_D_requireHow_9 : decode b_D_requireHow 9 = .ok (.new 189, 3) := by decide +kernel
theorem d_D_requireHow_12 : decode b_D_requireHow 12 = .ok (.dup, 1) := by decide +kernel
theorem d_D_requireHow_13 : decode b_D_requireHow 13 = .ok (.ldc 196, 2) := by decide +kernel
theorem d_D_requireHow_15 : decode b_D_requireHow 15 = .ok (.invokespecial 193, 3) := by decide +kernel
theorem d_D_requireHow_18 : decode b_D_requireHow 18 = .ok (.athrow, 1) := by decide +kernel
theorem d_D_requireHow_19 : decode b_D_requireHow 19 = .ok (.return_, 1) := by decide +kernel
theorem d_D_requireSide_0 : decode b_D_requireSide 0 = .ok (.iload_n 0, 1) := by decide +kernel
theorem d_D_requireSide_1 : decode b_D_requireSide 1 = .ok (.iconst 1, 1) := by decide +kernel
theorem d_D_requireSide_2 : decode b_D_requireSide 2 = .ok (.if_icmp .lt 9, 3) := by decide +kernel
theorem d_D_requireSide_5 : decode b_D_requireSide 5 = .ok (.iload_n 0, 1) := by decide +kernel
theorem d_D_requireSide_6 : decode b_D_requireSide 6 = .ok (.bipush 8, 2) := by decide +kernel
theorem d_D_requireSide_8 : decode b_D_requireSide 8 = .ok (.if_icmp .le 13, 3) := by decide +kernel
theorem d_D_requireSide_11 : decode b_D_requireSide 11 = .ok (.new 189, 3) := by decide +kernel
theorem d_D_requireSide_14 : decode b_D_requireSide 14 = .ok (.dup, 1) := by decide +kernel
theorem d_D_requireSide_15 : decode b_D_requireSide 15 = .ok (.ldc 198, 2) := by decide +kernel
theorem d_D_requireSide_17 : decode b_D_requireSide 17 = .ok (.invokespecial 193, 3) := by decide +kernel
theorem d_D_requireSide_20 : decode b_D_requireSide 20 = .ok (.athrow, 1) := by decide +kernel
theorem d_D_requireSide_21 : decode b_D_requireSide 21 = .ok (.return_, 1) := by decide +kernel
theorem d_D_requirePlace_0 : decode b_D_requirePlace 0 = .ok (.iload_n 1, 1) := by decide +kernel
theorem d_D_requirePlace_1 : decode b_D_requirePlace 1 = .ok (.invokestatic 20, 3) := by decide +kernel
theorem d_D_requirePlace_4 : decode b_D_requirePlace 4 = .ok (.iload_n 2, 1) := by decide +kernel
theorem d_D_requirePlace_5 : decode b_D_requirePlace 5 = .ok (.ifCond .lt 33, 3) := by decide +kernel
theorem d_D_requirePlace_8 : decode b_D_requirePlace 8 = .ok (.iload_n 2, 1) := by decide +kernel
theorem d_D_requirePlace_9 : decode b_D_requirePlace 9 = .ok (.aload_n 0, 1) := by decide +kernel
theorem d_D_requirePlace_10 : decode b_D_requirePlace 10 = .ok (.getfield 11, 3) := by decide +kernel
theorem d_D_requirePlace_13 : decode b_D_requirePlace 13 = .ok (.iload_n 1, 1) := by decide +kernel
theorem d_D_requirePlace_14 : decode b_D_requirePlace 14 = .ok (.aaload, 1) := by decide +kernel
theorem d_D_requirePlace_15 : decode b_D_requirePlace 15 = .ok (.getfield 58, 3) := by decide +kernel
theorem d_D_requirePlace_18 : decode b_D_requirePlace 18 = .ok (.if_icmp .ge 20, 3) := by decide +kernel
theorem d_D_requirePlace_21 : decode b_D_requirePlace 21 = .ok (.iload_n 3, 1) := by decide +kernel
theorem d_D_requirePlace_22 : decode b_D_requirePlace 22 = .ok (.ifCond .lt 16, 3) := by decide +kernel
theorem d_D_requirePlace_25 : decode b_D_requirePlace 25 = .ok (.iload_n 3, 1) := by decide +kernel
theorem d_D_requirePlace_26 : decode b_D_requirePlace 26 = .ok (.aload_n 0, 1) := by decide +kernel
theorem d_D_requirePlace_27 : decode b_D_requirePlace 27 = .ok (.getfield 11, 3) := by decide +kernel
theorem d_D_requirePlace_30 : decode b_D_requirePlace 30 = .ok (.iload_n 1, 1) := by decide +kernel
theorem d_D_requirePlace_31 : decode b_D_requirePlace 31 = .ok (.aaload, 1) := by decide +kernel
theorem d_D_requirePlace_32 : decode b_D_requirePlace 32 = .ok (.getfield 62, 3) := by decide +kernel
theorem d_D_requirePlace_35 : decode b_D_requirePlace 35 = .ok (.if_icmp .lt 13, 3) := by decide +kernel
theorem d_D_requirePlace_38 : decode b_D_requirePlace 38 = .ok (.new 189, 3) := by decide +kernel
theorem d_D_requirePlace_41 : decode b_D_requirePlace 41 = .ok (.dup, 1) := by decide +kernel
theorem d_D_requirePlace_42 : decode b_D_requirePlace 42 = .ok (.ldc 200, 2) := by decide +kernel
theorem d_D_requirePlace_44 : decode b_D_requirePlace 44 = .ok (.invokespecial 193, 3) := by decide +kernel
theorem d_D_requirePlace_47 : decode b_D_requirePlace 47 = .ok (.athrow, 1) := by decide +kernel
theorem d_D_requirePlace_48 : decode b_D_requirePlace 48 = .ok (.return_, 1) := by decide +kernel
theorem d_D_requireValue_0 : decode b_D_requireValue 0 = .ok (.lload_n 0, 1) := by decide +kernel
theorem d_D_requireValue_1 : decode b_D_requireValue 1 = .ok (.invokestatic 164, 3) := by decide +kernel
theorem d_D_requireValue_4 : decode b_D_requireValue 4 = .ok (.ifCond .ne 13, 3) := by decide +kernel
theorem d_D_requireValue_7 : decode b_D_requireValue 7 = .ok (.new 189, 3) := by decide +kernel
theorem d_D_requireValue_10 : decode b_D_requireValue 10 = .ok (.dup, 1) := by decide +kernel
theorem d_D_requireValue_11 : decode b_D_requireValue 11 = .ok (.ldc 202, 2) := by decide +kernel
theorem d_D_requireValue_13 : decode b_D_requireValue 13 = .ok (.invokespecial 193, 3) := by decide +kernel
theorem d_D_requireValue_16 : decode b_D_requireValue 16 = .ok (.athrow, 1) := by decide +kernel
theorem d_D_requireValue_17 : decode b_D_requireValue 17 = .ok (.return_, 1) := by decide +kernel
theorem d_D_requireEntry_0 : decode b_D_requireEntry 0 = .ok (.iload_n 0, 1) := by decide +kernel
theorem d_D_requireEntry_1 : decode b_D_requireEntry 1 = .ok (.ifCond .ne 13, 3) := by decide +kernel
theorem d_D_requireEntry_4 : decode b_D_requireEntry 4 = .ok (.new 204, 3) := by decide +kernel
theorem d_D_requireEntry_7 : decode b_D_requireEntry 7 = .ok (.dup, 1) := by decide +kernel
theorem d_D_requireEntry_8 : decode b_D_requireEntry 8 = .ok (.ldc 206, 2) := by decide +kernel
theorem d_D_requireEntry_10 : decode b_D_requireEntry 10 = .ok (.invokespecial 208, 3) := by decide +kernel
theorem d_D_requireEntry_13 : decode b_D_requireEntry 13 = .ok (.athrow, 1) := by decide +kernel
theorem d_D_requireEntry_14 : decode b_D_requireEntry 14 = .ok (.return_, 1) := by decide +kernel
theorem d_D_requireFit_0 : decode b_D_requireFit 0 = .ok (.iload_n 0, 1) := by decide +kernel
theorem d_D_requireFit_1 : decode b_D_requireFit 1 = .ok (.ifCond .ne 13, 3) := by decide +kernel
theorem d_D_requireFit_4 : decode b_D_requireFit 4 = .ok (.new 209, 3) := by decide +kernel
theorem d_D_requireFit_7 : decode b_D_requireFit 7 = .ok (.dup, 1) := by decide +kernel
theorem d_D_requireFit_8 : decode b_D_requireFit 8 = .ok (.ldc 211, 2) := by decide +kernel
theorem d_D_requireFit_10 : decode b_D_requireFit 10 = .ok (.invokespecial 213, 3) := by decide +kernel
theorem d_D_requireFit_13 : decode b_D_requireFit 13 = .ok (.athrow, 1) := by decide +kernel
theorem d_D_requireFit_14 : decode b_D_requireFit 14 = .ok (.return_, 1) := by decide +kernel
theorem d_D_requireSameShape_0 : decode b_D_requireSameShape 0 = .ok (.aload_n 0, 1) := by decide +kernel
theorem d_D_requireSameShape_1 : decode b_D_requireSameShape 1 = .ok (.getfield 11, 3) := by decide +kernel
theorem d_D_requireSameShape_4 : decode b_D_requireSameShape 4 = .ok (.iload_n 1, 1) := by decide +kernel
theorem d_D_requireSameShape_5 : decode b_D_requireSameShape 5 = .ok (.aaload, 1) := by decide +kernel
theorem d_D_requireSameShape_6 : decode b_D_requireSameShape 6 = .ok (.aload_n 0, 1) := by decide +kernel
theorem d_D_requireSameShape_7 : decode b_D_requireSameShape 7 = .ok (.getfield 11, 3) := by decide +kernel
theorem d_D_requireSameShape_10 : decode b_D_requireSameShape 10 = .ok (.iload_n 2, 1) := by decide +kernel
theorem d_D_requireSameShape_11 : decode b_D_requireSameShape 11 = .ok (.aaload, 1) := by decide +kernel
theorem d_D_requireSameShape_12 : decode b_D_requireSameShape 12 = .ok (.getfield 58, 3) := by decide +kernel
theorem d_D_requireSameShape_15 : decode b_D_requireSameShape 15 = .ok (.aload_n 0, 1) := by decide +kernel
theorem d_D_requireSameShape_16 : decode b_D_requireSameShape 16 = .ok (.getfield 11, 3) := by decide +kernel
theorem d_D_requireSameShape_19 : decode b_D_requireSameShape 19 = .ok (.iload_n 2, 1) := by decide +kernel
theorem d_D_requireSameShape_20 : decode b_D_requireSameShape 20 = .ok (.aaload, 1) := by decide +kernel
theorem d_D_requireSameShape_21 : decode b_D_requireSameShape 21 = .ok (.getfield 62, 3) := by decide +kernel
theorem d_D_requireSameShape_24 : decode b_D_requireSameShape 24 = .ok (.invokevirtual 82, 3) := by decide +kernel
theorem d_D_requireSameShape_27 : decode b_D_requireSameShape 27 = .ok (.invokestatic 79, 3) := by decide +kernel
theorem d_D_requireSameShape_30 : decode b_D_requireSameShape 30 = .ok (.return_, 1) := by decide +kernel
theorem d_D_requireGraph_0 : decode b_D_requireGraph 0 = .ok (.iload_n 1, 1) := by decide +kernel
theorem d_D_requireGraph_1 : decode b_D_requireGraph 1 = .ok (.invokestatic 20, 3) := by decide +kernel
theorem d_D_requireGraph_4 : decode b_D_requireGraph 4 = .ok (.aload_n 0, 1) := by decide +kernel
theorem d_D_requireGraph_5 : decode b_D_requireGraph 5 = .ok (.getfield 11, 3) := by decide +kernel
theorem d_D_requireGraph_8 : decode b_D_requireGraph 8 = .ok (.iload_n 1, 1) := by decide +kernel
theorem d_D_requireGraph_9 : decode b_D_requireGraph 9 = .ok (.aaload, 1) := by decide +kernel
theorem d_D_requireGraph_10 : decode b_D_requireGraph 10 = .ok (.getfield 58, 3) := by decide +kernel
theorem d_D_requireGraph_13 : decode b_D_requireGraph 13 = .ok (.aload_n 0, 1) := by decide +kernel
theorem d_D_requireGraph_14 : decode b_D_requireGraph 14 = .ok (.getfield 11, 3) := by decide +kernel
theorem d_D_requireGraph_17 : decode b_D_requireGraph 17 = .ok (.iload_n 1, 1) := by decide +kernel
theorem d_D_requireGraph_18 : decode b_D_requireGraph 18 = .ok (.aaload, 1) := by decide +kernel
theorem d_D_requireGraph_19 : decode b_D_requireGraph 19 = .ok (.getfield 62, 3) := by decide +kernel
theorem d_D_requireGraph_22 : decode b_D_requireGraph 22 = .ok (.if_icmp .ne 7, 3) := by decide +kernel
theorem d_D_requireGraph_25 : decode b_D_requireGraph 25 = .ok (.iconst 1, 1) := by decide +kernel
theorem d_D_requireGraph_26 : decode b_D_requireGraph 26 = .ok (.goto 4, 3) := by decide +kernel
theorem d_D_requireGraph_29 : decode b_D_requireGraph 29 = .ok (.iconst 0, 1) := by decide +kernel
theorem d_D_requireGraph_30 : decode b_D_requireGraph 30 = .ok (.invokestatic 79, 3) := by decide +kernel
theorem d_D_requireGraph_33 : decode b_D_requireGraph 33 = .ok (.return_, 1) := by decide +kernel
theorem d_D_requireVertex_0 : decode b_D_requireVertex 0 = .ok (.iload_n 1, 1) := by decide +kernel
theorem d_D_requireVertex_1 : decode b_D_requireVertex 1 = .ok (.ifCond .lt 11, 3) := by decide +kernel
theorem d_D_requireVertex_4 : decode b_D_requireVertex 4 = .ok (.iload_n 1, 1) := by decide +kernel
theorem d_D_requireVertex_5 : decode b_D_requireVertex 5 = .ok (.aload_n 0, 1) := by decide +kernel
theorem d_D_requireVertex_6 : decode b_D_requireVertex 6 = .ok (.getfield 58, 3) := by decide +kernel
theorem d_D_requireVertex_9 : decode b_D_requireVertex 9 = .ok (.if_icmp .lt 13, 3) := by decide +kernel
theorem d_D_requireVertex_12 : decode b_D_requireVertex 12 = .ok (.new 204, 3) := by decide +kernel
theorem d_D_requireVertex_15 : decode b_D_requireVertex 15 = .ok (.dup, 1) := by decide +kernel
theorem d_D_requireVertex_16 : decode b_D_requireVertex 16 = .ok (.ldc 214, 2) := by decide +kernel
theorem d_D_requireVertex_18 : decode b_D_requireVertex 18 = .ok (.invokespecial 208, 3) := by decide +kernel
theorem d_D_requireVertex_21 : decode b_D_requireVertex 21 = .ok (.athrow, 1) := by decide +kernel
theorem d_D_requireVertex_22 : decode b_D_requireVertex 22 = .ok (.return_, 1) := by decide +kernel
theorem d_D_requireLengths_0 : decode b_D_requireLengths 0 = .ok (.iconst 0, 1) := by decide +kernel
theorem d_D_requireLengths_1 : decode b_D_requireLengths 1 = .ok (.istore_n 1, 1) := by decide +kernel
theorem d_D_requireLengths_2 : decode b_D_requireLengths 2 = .ok (.iload_n 1, 1) := by decide +kernel
theorem d_D_requireLengths_3 : decode b_D_requireLengths 3 = .ok (.aload_n 0, 1) := by decide +kernel
theorem d_D_requireLengths_4 : decode b_D_requireLengths 4 = .ok (.getfield 58, 3) := by decide +kernel
theorem d_D_requireLengths_7 : decode b_D_requireLengths 7 = .ok (.if_icmp .ge 60, 3) := by decide +kernel
theorem d_D_requireLengths_10 : decode b_D_requireLengths 10 = .ok (.iconst 0, 1) := by decide +kernel
theorem d_D_requireLengths_11 : decode b_D_requireLengths 11 = .ok (.istore_n 2, 1) := by decide +kernel
theorem d_D_requireLengths_12 : decode b_D_requireLengths 12 = .ok (.iload_n 2, 1) := by decide +kernel
theorem d_D_requireLengths_13 : decode b_D_requireLengths 13 = .ok (.aload_n 0, 1) := by decide +kernel
theorem d_D_requireLengths_14 : decode b_D_requireLengths 14 = .ok (.getfield 62, 3) := by decide +kernel
theorem d_D_requireLengths_17 : decode b_D_requireLengths 17 = .ok (.if_icmp .ge 44, 3) := by decide +kernel
theorem d_D_requireLengths_20 : decode b_D_requireLengths 20 = .ok (.aload_n 0, 1) := by decide +kernel
theorem d_D_requireLengths_21 : decode b_D_requireLengths 21 = .ok (.iload_n 1, 1) := by decide +kernel
theorem d_D_requireLengths_22 : decode b_D_requireLengths 22 = .ok (.iload_n 2, 1) := by decide +kernel
theorem d_D_requireLengths_23 : decode b_D_requireLengths 23 = .ok (.invokevirtual 43, 3) := by decide +kernel
theorem d_D_requireLengths_26 : decode b_D_requireLengths 26 = .ok (.ifCond .eq 29, 3) := by decide +kernel
theorem d_D_requireLengths_29 : decode b_D_requireLengths 29 = .ok (.aload_n 0, 1) := by decide +kernel
theorem d_D_requireLengths_30 : decode b_D_requireLengths 30 = .ok (.iload_n 1, 1) := by decide +kernel
theorem d_D_requireLengths_31 : decode b_D_requireLengths 31 = .ok (.iload_n 2, 1) := by decide +kernel
theorem d_D_requireLengths_32 : decode b_D_requireLengths 32 = .ok (.invokevirtual 54, 3) := by decide +kernel
theorem d_D_requireLengths_35 : decode b_D_requireLengths 35 = .ok (.invokestatic 175, 3) := by decide +kernel
theorem d_D_requireLengths_38 : decode b_D_requireLengths 38 = .ok (.ldc2_w 216, 3) := by decide +kernel
theorem d_D_requireLengths_41 : decode b_D_requireLengths 41 = .ok (.lcmp, 1) := by decide +kernel
theorem d_D_requireLengths_42 : decode b_D_requireLengths 42 = .ok (.ifCond .le 13, 3) := by decide +kernel
theorem d_D_requireLengths_45 : decode b_D_requireLengths 45 = .ok (.new 168, 3) := by decide +kernel
theorem d_D_requireLengths_48 : decode b_D_requireLengths 48 = .ok (.dup, 1) := by decide +kernel
theorem d_D_requireLengths_49 : decode b_D_requireLengths 49 = .ok (.ldc 218, 2) := by decide +kernel
theorem d_D_requireLengths_51 : decode b_D_requireLengths 51 = .ok (.invokespecial 172, 3) := by decide +kernel
theorem d_D_requireLengths_54 : decode b_D_requireLengths 54 = .ok (.athrow, 1) := by decide +kernel
theorem d_D_requireLengths_55 : decode b_D_requireLengths 55 = .ok (.iinc 2 1, 3) := by decide +kernel
theorem d_D_requireLengths_58 : decode b_D_requireLengths 58 = .ok (.goto (-46), 3) := by decide +kernel
theorem d_D_requireLengths_61 : decode b_D_requireLengths 61 = .ok (.iinc 1 1, 3) := by decide +kernel
theorem d_D_requireLengths_64 : decode b_D_requireLengths 64 = .ok (.goto (-62), 3) := by decide +kernel
theorem d_D_requireLengths_67 : decode b_D_requireLengths 67 = .ok (.return_, 1) := by decide +kernel
theorem d_D_requireNoCircleBelowZero_0 : decode b_D_requireNoCircleBelowZero 0 = .ok (.iconst 0, 1) := by decide +kernel
theorem d_D_requireNoCircleBelowZero_1 : decode b_D_requireNoCircleBelowZero 1 = .ok (.istore_n 1, 1) := by decide +kernel
theorem d_D_requireNoCircleBelowZero_2 : decode b_D_requireNoCircleBelowZero 2 = .ok (.iload_n 1, 1) := by decide +kernel
theorem d_D_requireNoCircleBelowZero_3 : decode b_D_requireNoCircleBelowZero 3 = .ok (.aload_n 0, 1) := by decide +kernel
theorem d_D_requireNoCircleBelowZero_4 : decode b_D_requireNoCircleBelowZero 4 = .ok (.getfield 58, 3) := by decide +kernel
theorem d_D_requireNoCircleBelowZero_7 : decode b_D_requireNoCircleBelowZero 7 = .ok (.if_icmp .ge 30, 3) := by decide +kernel
theorem d_D_requireNoCircleBelowZero_10 : decode b_D_requireNoCircleBelowZero 10 = .ok (.aload_n 0, 1) := by decide +kernel
theorem d_D_requireNoCircleBelowZero_11 : decode b_D_requireNoCircleBelowZero 11 = .ok (.iload_n 1, 1) := by decide +kernel
theorem d_D_requireNoCircleBelowZero_12 : decode b_D_requireNoCircleBelowZero 12 = .ok (.iload_n 1, 1) := by decide +kernel
theorem d_D_requireNoCircleBelowZero_13 : decode b_D_requireNoCircleBelowZero 13 = .ok (.invokevirtual 54, 3) := by decide +kernel
theorem d_D_requireNoCircleBelowZero_16 : decode b_D_requireNoCircleBelowZero 16 = .ok (.lconst 0, 1) := by decide +kernel
theorem d_D_requireNoCircleBelowZero_17 : decode b_D_requireNoCircleBelowZero 17 = .ok (.lcmp, 1) := by decide +kernel
theorem d_D_requireNoCircleBelowZero_18 : decode b_D_requireNoCircleBelowZero 18 = .ok (.ifCond .ge 13, 3) := by decide +kernel
theorem d_D_requireNoCircleBelowZero_21 : decode b_D_requireNoCircleBelowZero 21 = .ok (.new 204, 3) := by decide +kernel
theorem d_D_requireNoCircleBelowZero_24 : decode b_D_requireNoCircleBelowZero 24 = .ok (.dup, 1) := by decide +kernel
theorem d_D_requireNoCircleBelowZero_25 : decode b_D_requireNoCircleBelowZero 25 = .ok (.ldc 220, 2) := by decide +kernel
theorem d_D_requireNoCircleBelowZero_27 : decode b_D_requireNoCircleBelowZero 27 = .ok (.invokespecial 208, 3) := by decide +kernel
theorem d_D_requireNoCircleBelowZero_30 : decode b_D_requireNoCircleBelowZero 30 = .ok (.athrow, 1) := by decide +kernel
theorem d_D_requireNoCircleBelowZero_31 : decode b_D_requireNoCircleBelowZero 31 = .ok (.iinc 1 1, 3) := by decide +kernel
theorem d_D_requireNoCircleBelowZero_34 : decode b_D_requireNoCircleBelowZero 34 = .ok (.goto (-32), 3) := by decide +kernel
theorem d_D_requireNoCircleBelowZero_37 : decode b_D_requireNoCircleBelowZero 37 = .ok (.return_, 1) := by decide +kernel
end
section
theorem d_R_init_0 : decode b_R_init 0 = .ok (.aload_n 0, 1) := by decide +kernel
theorem d_R_init_1 : decode b_R_init 1 = .ok (.invokespecial 1, 3) := by decide +kernel
theorem d_R_init_4 : decode b_R_init 4 = .ok (.aload_n 0, 1) := by decide +kernel
theorem d_R_init_5 : decode b_R_init 5 = .ok (.bipush 6, 2) := by decide +kernel
theorem d_R_init_7 : decode b_R_init 7 = .ok (.newarray .int, 2) := by decide +kernel
theorem d_R_init_9 : decode b_R_init 9 = .ok (.dup, 1) := by decide +kernel
theorem d_R_init_10 : decode b_R_init 10 = .ok (.iconst 0, 1) := by decide +kernel
theorem d_R_init_11 : decode b_R_init 11 = .ok (.iconst 1, 1) := by decide +kernel
theorem d_R_init_12 : decode b_R_init 12 = .ok (.iastore, 1) := by decide +kernel
theorem d_R_init_13 : decode b_R_init 13 = .ok (.dup, 1) := by decide +kernel
theorem d_R_init_14 : decode b_R_init 14 = .ok (.iconst 1, 1) := by decide +kernel
theorem d_R_init_15 : decode b_R_init 15 = .ok (.iconst 1, 1) := by decide +kernel
theorem d_R_init_16 : decode b_R_init 16 = .ok (.iastore, 1) := by decide +kernel
theorem d_R_init_17 : decode b_R_init 17 = .ok (.dup, 1) := by decide +kernel
theorem d_R_init_18 : decode b_R_init 18 = .ok (.iconst 2, 1) := by decide +kernel
theorem d_R_init_19 : decode b_R_init 19 = .ok (.iconst 1, 1) := by decide +kernel
theorem d_R_init_20 : decode b_R_init 20 = .ok (.iastore, 1) := by decide +kernel
theorem d_R_init_21 : decode b_R_init 21 = .ok (.dup, 1) := by decide +kernel
theorem d_R_init_22 : decode b_R_init 22 = .ok (.iconst 3, 1) := by decide +kernel
theorem d_R_init_23 : decode b_R_init 23 = .ok (.iconst 1, 1) := by decide +kernel
theorem d_R_init_24 : decode b_R_init 24 = .ok (.iastore, 1) := by decide +kernel
theorem d_R_init_25 : decode b_R_init 25 = .ok (.dup, 1) := by decide +kernel
theorem d_R_init_26 : decode b_R_init 26 = .ok (.iconst 4, 1) := by decide +kernel
theorem d_R_init_27 : decode b_R_init 27 = .ok (.iconst 1, 1) := by decide +kernel
theorem d_R_init_28 : decode b_R_init 28 = .ok (.iastore, 1) := by decide +kernel
theorem d_R_init_29 : decode b_R_init 29 = .ok (.dup, 1) := by decide +kernel
theorem d_R_init_30 : decode b_R_init 30 = .ok (.iconst 5, 1) := by decide +kernel
theorem d_R_init_31 : decode b_R_init 31 = .ok (.iconst 1, 1) := by decide +kernel
theorem d_R_init_32 : decode b_R_init 32 = .ok (.iastore, 1) := by decide +kernel
theorem d_R_init_33 : decode b_R_init 33 = .ok (.putfield 7, 3) := by decide +kernel
theorem d_R_init_36 : decode b_R_init 36 = .ok (.aload_n 0, 1) := by decide +kernel
theorem d_R_init_37 : decode b_R_init 37 = .ok (.bipush 6, 2) := by decide +kernel
theorem d_R_init_39 : decode b_R_init 39 = .ok (.newarray .int, 2) := by decide +kernel
theorem d_R_init_41 : decode b_R_init 41 = .ok (.dup, 1) := by decide +kernel
theorem d_R_init_42 : decode b_R_init 42 = .ok (.iconst 0, 1) := by decide +kernel
theorem d_R_init_43 : decode b_R_init 43 = .ok (.iconst 1, 1) := by decide +kernel
theorem d_R_init_44 : decode b_R_init 44 = .ok (.iastore, 1) := by decide +kernel
theorem d_R_init_45 : decode b_R_init 45 = .ok (.dup, 1) := by decide +kernel
theorem d_R_init_46 : decode b_R_init 46 = .ok (.iconst 1, 1) := by decide +kernel
theorem d_R_init_47 : decode b_R_init 47 = .ok (.iconst 1, 1) := by decide +kernel
theorem d_R_init_48 : decode b_R_init 48 = .ok (.iastore, 1) := by decide +kernel
theorem d_R_init_49 : decode b_R_init 49 = .ok (.dup, 1) := by decide +kernel
theorem d_R_init_50 : decode b_R_init 50 = .ok (.iconst 2, 1) := by decide +kernel
theorem d_R_init_51 : decode b_R_init 51 = .ok (.iconst 1, 1) := by decide +kernel
theorem d_R_init_52 : decode b_R_init 52 = .ok (.iastore, 1) := by decide +kernel
theorem d_R_init_53 : decode b_R_init 53 = .ok (.dup, 1) := by decide +kernel
theorem d_R_init_54 : decode b_R_init 54 = .ok (.iconst 3, 1) := by decide +kernel
theorem d_R_init_55 : decode b_R_init 55 = .ok (.iconst 1, 1) := by decide +kernel
theorem d_R_init_56 : decode b_R_init 56 = .ok (.iastore, 1) := by decide +kernel
theorem d_R_init_57 : decode b_R_init 57 = .ok (.dup, 1) := by decide +kernel
theorem d_R_init_58 : decode b_R_init 58 = .ok (.iconst 4, 1) := by decide +kernel
theorem d_R_init_59 : decode b_R_init 59 = .ok (.iconst 1, 1) := by decide +kernel
theorem d_R_init_60 : decode b_R_init 60 = .ok (.iastore, 1) := by decide +kernel
theorem d_R_init_61 : decode b_R_init 61 = .ok (.dup, 1) := by decide +kernel
theorem d_R_init_62 : decode b_R_init 62 = .ok (.iconst 5, 1) := by decide +kernel
theorem d_R_init_63 : decode b_R_init 63 = .ok (.iconst 1, 1) := by decide +kernel
theorem d_R_init_64 : decode b_R_init 64 = .ok (.iastore, 1) := by decide +kernel
theorem d_R_init_65 : decode b_R_init 65 = .ok (.putfield 13, 3) := by decide +kernel
theorem d_R_init_68 : decode b_R_init 68 = .ok (.aload_n 0, 1) := by decide +kernel
theorem d_R_init_69 : decode b_R_init 69 = .ok (.sipush 384, 3) := by decide +kernel
theorem d_R_init_72 : decode b_R_init 72 = .ok (.newarray .boolean, 2) := by decide +kernel
theorem d_R_init_74 : decode b_R_init 74 = .ok (.putfield 16, 3) := by decide +kernel
theorem d_R_init_77 : decode b_R_init 77 = .ok (.aload_n 0, 1) := by decide +kernel
theorem d_R_init_78 : decode b_R_init 78 = .ok (.sipush 384, 3) := by decide +kernel
theorem d_R_init_81 : decode b_R_init 81 = .ok (.newarray .long, 2) := by decide +kernel
theorem d_R_init_83 : decode b_R_init 83 = .ok (.putfield 20, 3) := by decide +kernel
theorem d_R_init_86 : decode b_R_init 86 = .ok (.aload_n 0, 1) := by decide +kernel
theorem d_R_init_87 : decode b_R_init 87 = .ok (.bipush 64, 2) := by decide +kernel
theorem d_R_init_89 : decode b_R_init 89 = .ok (.newarray .boolean, 2) := by decide +kernel
theorem d_R_init_91 : decode b_R_init 91 = .ok (.putfield 24, 3) := by decide +kernel
theorem d_R_init_94 : decode b_R_init 94 = .ok (.aload_n 0, 1) := by decide +kernel
theorem d_R_init_95 : decode b_R_init 95 = .ok (.bipush 64, 2) := by decide +kernel
theorem d_R_init_97 : decode b_R_init 97 = .ok (.newarray .long, 2) := by decide +kernel
theorem d_R_init_99 : decode b_R_init 99 = .ok (.putfield 27, 3) := by decide +kernel
theorem d_R_init_102 : decode b_R_init 102 = .ok (.return_, 1) := by decide +kernel
theorem d_R_thrown_0 : decode b_R_thrown 0 = .ok (.aload_n 0, 1) := by decide +kernel
theorem d_R_thrown_1 : decode b_R_thrown 1 = .ok (.getfield 30, 3) := by decide +kernel
theorem d_R_thrown_4 : decode b_R_thrown 4 = .ok (.ireturn, 1) := by decide +kernel
theorem d_R_isRegister_0 : decode b_R_isRegister 0 = .ok (.iload_n 0, 1) := by decide +kernel
theorem d_R_isRegister_1 : decode b_R_isRegister 1 = .ok (.ifCond .lt 13, 3) := by decide +kernel
theorem d_R_isRegister_4 : decode b_R_isRegister 4 = .ok (.iload_n 0, 1) := by decide +kernel
theorem d_R_isRegister_5 : decode b_R_isRegister 5 = .ok (.bipush 6, 2) := by decide +kernel
theorem d_R_isRegister_7 : decode b_R_isRegister 7 = .ok (.if_icmp .ge 7, 3) := by decide +kernel
theorem d_R_isRegister_10 : decode b_R_isRegister 10 = .ok (.iconst 1, 1) := by decide +kernel
theorem d_R_isRegister_11 : decode b_R_isRegister 11 = .ok (.goto 4, 3) := by decide +kernel
theorem d_R_isRegister_14 : decode b_R_isRegister 14 = .ok (.iconst 0, 1) := by decide +kernel
theorem d_R_isRegister_15 : decode b_R_isRegister 15 = .ok (.ireturn, 1) := by decide +kernel
theorem d_R_isRing_0 : decode b_R_isRing 0 = .ok (.iload_n 0, 1) := by decide +kernel
theorem d_R_isRing_1 : decode b_R_isRing 1 = .ok (.ifCond .lt 12, 3) := by decide +kernel
theorem d_R_isRing_4 : decode b_R_isRing 4 = .ok (.iload_n 0, 1) := by decide +kernel
theorem d_R_isRing_5 : decode b_R_isRing 5 = .ok (.iconst 4, 1) := by decide +kernel
theorem d_R_isRing_6 : decode b_R_isRing 6 = .ok (.if_icmp .ge 7, 3) := by decide +kernel
theorem d_R_isRing_9 : decode b_R_isRing 9 = .ok (.iconst 1, 1) := by decide +kernel
theorem d_R_isRing_10 : decode b_R_isRing 10 = .ok (.goto 4, 3) := by decide +kernel
theorem d_R_isRing_13 : decode b_R_isRing 13 = .ok (.iconst 0, 1) := by decide +kernel
theorem d_R_isRing_14 : decode b_R_isRing 14 = .ok (.ireturn, 1) := by decide +kernel
theorem d_R_isValue_0 : decode b_R_isValue 0 = .ok (.lload_n 0, 1) := by decide +kernel
theorem d_R_isValue_1 : decode b_R_isValue 1 = .ok (.ldc2_w 34, 3) := by decide +kernel
theorem d_R_isValue_4 : decode b_R_isValue 4 = .ok (.lcmp, 1) := by decide +kernel
theorem d_R_isValue_5 : decode b_R_isValue 5 = .ok (.ifCond .lt 15, 3) := by decide +kernel
theorem d_R_isValue_8 : decode b_R_isValue 8 = .ok (.lload_n 0, 1) := by decide +kernel
theorem d_R_isValue_9 : decode b_R_isValue 9 = .ok (.ldc2_w 36, 3) := by decide +kernel
theorem d_R_isValue_12 : decode b_R_isValue 12 = .ok (.lcmp, 1) := by decide +kernel
theorem d_R_isValue_13 : decode b_R_isValue 13 = .ok (.ifCond .gt 7, 3) := by decide +kernel
theorem d_R_isValue_16 : decode b_R_isValue 16 = .ok (.iconst 1, 1) := by decide +kernel
theorem d_R_isValue_17 : decode b_R_isValue 17 = .ok (.goto 4, 3) := by decide +kernel
theorem d_R_isValue_20 : decode b_R_isValue 20 = .ok (.iconst 0, 1) := by decide +kernel
theorem d_R_isValue_21 : decode b_R_isValue 21 = .ok (.ireturn, 1) := by decide +kernel
theorem d_R_isPlace_0 : decode b_R_isPlace 0 = .ok (.iload_n 1, 1) := by decide +kernel
theorem d_R_isPlace_1 : decode b_R_isPlace 1 = .ok (.invokestatic 38, 3) := by decide +kernel
theorem d_R_isPlace_4 : decode b_R_isPlace 4 = .ok (.ifCond .eq 35, 3) := by decide +kernel
theorem d_R_isPlace_7 : decode b_R_isPlace 7 = .ok (.iload_n 2, 1) := by decide +kernel
theorem d_R_isPlace_8 : decode b_R_isPlace 8 = .ok (.ifCond .lt 31, 3) := by decide +kernel
theorem d_R_isPlace_11 : decode b_R_isPlace 11 = .ok (.iload_n 2, 1) := by decide +kernel
theorem d_R_isPlace_12 : decode b_R_isPlace 12 = .ok (.aload_n 0, 1) := by decide +kernel
theorem d_R_isPlace_13 : decode b_R_isPlace 13 = .ok (.getfield 7, 3) := by decide +kernel
theorem d_R_isPlace_16 : decode b_R_isPlace 16 = .ok (.iload_n 1, 1) := by decide +kernel
theorem d_R_isPlace_17 : decode b_R_isPlace 17 = .ok (.iaload, 1) := by decide +kernel
theorem d_R_isPlace_18 : decode b_R_isPlace 18 = .ok (.if_icmp .ge 21, 3) := by decide +kernel
theorem d_R_isPlace_21 : decode b_R_isPlace 21 = .ok (.iload_n 3, 1) := by decide +kernel
theorem d_R_isPlace_22 : decode b_R_isPlace 22 = .ok (.ifCond .lt 17, 3) := by decide +kernel
theorem d_R_isPlace_25 : decode b_R_isPlace 25 = .ok (.iload_n 3, 1) := by decide +kernel
theorem d_R_isPlace_26 : decode b_R_isPlace 26 = .ok (.aload_n 0, 1) := by decide +kernel
theorem d_R_isPlace_27 : decode b_R_isPlace 27 = .ok (.getfield 13, 3) := by decide +kernel
theorem d_R_isPlace_30 : decode b_R_isPlace 30 = .ok (.iload_n 1, 1) := by decide +kernel
theorem d_R_isPlace_31 : decode b_R_isPlace 31 = .ok (.iaload, 1) := by decide +kernel
theorem d_R_isPlace_32 : decode b_R_isPlace 32 = .ok (.if_icmp .ge 7, 3) := by decide +kernel
theorem d_R_isPlace_35 : decode b_R_isPlace 35 = .ok (.iconst 1, 1) := by decide +kernel
theorem d_R_isPlace_36 : decode b_R_isPlace 36 = .ok (.goto 4, 3) := by decide +kernel
theorem d_R_isPlace_39 : decode b_R_isPlace 39 = .ok (.iconst 0, 1) := by decide +kernel
theorem d_R_isPlace_40 : decode b_R_isPlace 40 = .ok (.ireturn, 1) := by decide +kernel
theorem d_R_shape_0 : decode b_R_shape 0 = .ok (.aload_n 0, 1) := by decide +kernel
theorem d_R_shape_1 : decode b_R_shape 1 = .ok (.iload_n 1, 1) := by decide +kernel
theorem d_R_shape_2 : decode b_R_shape 2 = .ok (.invokestatic 38, 3) := by decide +kernel
theorem d_R_shape_5 : decode b_R_shape 5 = .ok (.ifCond .eq 25, 3) := by decide +kernel
theorem d_R_shape_8 : decode b_R_shape 8 = .ok (.iload_n 2, 1) := by decide +kernel
theorem d_R_shape_9 : decode b_R_shape 9 = .ok (.iconst 1, 1) := by decide +kernel
theorem d_R_shape_10 : decode b_R_shape 10 = .ok (.if_icmp .lt 20, 3) := by decide +kernel
theorem d_R_shape_13 : decode b_R_shape 13 = .ok (.iload_n 2, 1) := by decide +kernel
theorem d_R_shape_14 : decode b_R_shape 14 = .ok (.bipush 8, 2) := by decide +kernel
theorem d_R_shape_16 : decode b_R_shape 16 = .ok (.if_icmp .gt 14, 3) := by decide +kernel
theorem d_R_shape_19 : decode b_R_shape 19 = .ok (.iload_n 3, 1) := by decide +kernel
theorem d_R_shape_20 : decode b_R_shape 20 = .ok (.iconst 1, 1) := by decide +kernel
theorem d_R_shape_21 : decode b_R_shape 21 = .ok (.if_icmp .lt 9, 3) := by decide +kernel
theorem d_R_shape_24 : decode b_R_shape 24 = .ok (.iload_n 3, 1) := by decide +kernel
theorem d_R_shape_25 : decode b_R_shape 25 = .ok (.bipush 8, 2) := by decide +kernel
theorem d_R_shape_27 : decode b_R_shape 27 = .ok (.if_icmp .le 7, 3) := by decide +kernel
theorem d_R_shape_30 : decode b_R_shape 30 = .ok (.iconst 1, 1) := by decide +kernel
theorem d_R_shape_31 : decode b_R_shape 31 = .ok (.goto 4, 3) := by decide +kernel
theorem d_R_shape_34 : decode b_R_shape 34 = .ok (.iconst 0, 1) := by decide +kernel
theorem d_R_shape_35 : decode b_R_shape 35 = .ok (.putfield 30, 3) := by decide +kernel
theorem d_R_shape_38 : decode b_R_shape 38 = .ok (.aload_n 0, 1) := by decide +kernel
theorem d_R_shape_39 : decode b_R_shape 39 = .ok (.getfield 30, 3) := by decide +kernel
theorem d_R_shape_42 : decode b_R_shape 42 = .ok (.ifCond .le 4, 3) := by decide +kernel
theorem d_R_shape_45 : decode b_R_shape 45 = .ok (.return_, 1) := by decide +kernel
theorem d_R_shape_46 : decode b_R_shape 46 = .ok (.aload_n 0, 1) := by decide +kernel
theorem d_R_shape_47 : decode b_R_shape 47 = .ok (.getfield 7, 3) := by decide +kernel
theorem d_R_shape_50 : decode b_R_shape 50 = .ok (.iload_n 1, 1) := by decide +kernel
theorem d_R_shape_51 : decode b_R_shape 51 = .ok (.iload_n 2, 1) := by decide +kernel
theorem d_R_shape_52 : decode b_R_shape 52 = .ok (.iastore, 1) := by decide +kernel
theorem d_R_shape_53 : decode b_R_shape 53 = .ok (.aload_n 0, 1) := by decide +kernel
theorem d_R_shape_54 : decode b_R_shape 54 = .ok (.getfield 13, 3) := by decide +kernel
theorem d_R_shape_57 : decode b_R_shape 57 = .ok (.iload_n 1, 1) := by decide +kernel
theorem d_R_shape_58 : decode b_R_shape 58 = .ok (.iload_n 3, 1) := by decide +kernel
theorem d_R_shape_59 : decode b_R_shape 59 = .ok (.iastore, 1) := by decide +kernel
theorem d_R_shape_60 : decode b_R_shape 60 = .ok (.bipush 64, 2) := by decide +kernel
theorem d_R_shape_62 : decode b_R_shape 62 = .ok (.iload_n 1, 1) := by decide +kernel
theorem d_R_shape_63 : decode b_R_shape 63 = .ok (.imul, 1) := by decide +kernel
theorem d_R_shape_64 : decode b_R_shape 64 = .ok (.istore 4, 2) := by decide +kernel
theorem d_R_shape_66 : decode b_R_shape 66 = .ok (.iload 4, 2) := by decide +kernel
theorem d_R_shape_68 : decode b_R_shape 68 = .ok (.bipush 64, 2) := by decide +kernel
theorem d_R_shape_70 : decode b_R_shape 70 = .ok (.iload_n 1, 1) := by decide +kernel
theorem d_R_shape_71 : decode b_R_shape 71 = .ok (.imul, 1) := by decide +kernel
theorem d_R_shape_72 : decode b_R_shape 72 = .ok (.bipush 64, 2) := by decide +kernel
theorem d_R_shape_74 : decode b_R_shape 74 = .ok (.iadd, 1) := by decide +kernel
theorem d_R_shape_75 : decode b_R_shape 75 = .ok (.if_icmp .ge 17, 3) := by decide +kernel
theorem d_R_shape_78 : decode b_R_shape 78 = .ok (.aload_n 0, 1) := by decide +kernel
theorem d_R_shape_79 : decode b_R_shape 79 = .ok (.getfield 16, 3) := by decide +kernel
theorem d_R_shape_82 : decode b_R_shape 82 = .ok (.iload 4, 2) := by decide +kernel
theorem d_R_shape_84 : decode b_R_shape 84 = .ok (.iconst 0, 1) := by decide +kernel
theorem d_R_shape_85 : decode b_R_shape 85 = .ok (.bastore, 1) := by decide +kernel
theorem d_R_shape_86 : decode b_R_shape 86 = .ok (.iinc 4 1, 3) := by decide +kernel
theorem d_R_shape_89 : decode b_R_shape 89 = .ok (.goto (-23), 3) := by decide +kernel
theorem d_R_shape_92 : decode b_R_shape 92 = .ok (.return_, 1) := by decide +kernel
theorem d_R_put_0 : decode b_R_put 0 = .ok (.aload_n 0, 1) := by decide +kernel
theorem d_R_put_1 : decode b_R_put 1 = .ok (.aload_n 0, 1) := by decide +kernel
theorem d_R_put_2 : decode b_R_put 2 = .ok (.iload_n 1, 1) := by decide +kernel
theorem d_R_put_3 : decode b_R_put 3 = .ok (.iload_n 2, 1) := by decide +kernel
theorem d_R_put_4 : decode b_R_put 4 = .ok (.iload_n 3, 1) := by decide +kernel
theorem d_R_put_5 : decode b_R_put 5 = .ok (.invokevirtual 42, 3) := by decide +kernel
theorem d_R_put_8 : decode b_R_put 8 = .ok (.ifCond .eq 11, 3) := by decide +kernel
theorem d_R_put_11 : decode b_R_put 11 = .ok (.lload 4, 2) := by decide +kernel
theorem d_R_put_13 : decode b_R_put 13 = .ok (.invokestatic 46, 3) := by decide +kernel
theorem d_R_put_16 : decode b_R_put 16 = .ok (.ifCond .ne 7, 3) := by decide +kernel
theorem d_R_put_19 : decode b_R_put 19 = .ok (.iconst 1, 1) := by decide +kernel
theorem d_R_put_20 : decode b_R_put 20 = .ok (.goto 4, 3) := by decide +kernel
theorem d_R_put_23 : decode b_R_put 23 = .ok (.iconst 0, 1) := by decide +kernel
theorem d_R_put_24 : decode b_R_put 24 = .ok (.putfield 30, 3) := by decide +kernel
theorem d_R_put_27 : decode b_R_put 27 = .ok (.aload_n 0, 1) := by decide +kernel
theorem d_R_put_28 : decode b_R_put 28 = .ok (.getfield 30, 3) := by decide +kernel
theorem d_R_put_31 : decode b_R_put 31 = .ok (.ifCond .le 4, 3) := by decide +kernel
theorem d_R_put_34 : decode b_R_put 34 = .ok (.return_, 1) := by decide +kernel
theorem d_R_put_35 : decode b_R_put 35 = .ok (.aload_n 0, 1) := by decide +kernel
theorem d_R_put_36 : decode b_R_put 36 = .ok (.getfield 16, 3) := by decide +kernel
theorem d_R_put_39 : decode b_R_put 39 = .ok (.bipush 64, 2) := by decide +kernel
theorem d_R_put_41 : decode b_R_put 41 = .ok (.iload_n 1, 1) := by decide +kernel
theorem d_R_put_42 : decode b_R_put 42 = .ok (.imul, 1) := by decide +kernel
theorem d_R_put_43 : decode b_R_put 43 = .ok (.bipush 8, 2) := by decide +kernel
theorem d_R_put_45 : decode b_R_put 45 = .ok (.iload_n 2, 1) := by decide +kernel
theorem d_R_put_46 : decode b_R_put 46 = .ok (.imul, 1) := by decide +kernel
theorem d_R_put_47 : decode b_R_put 47 = .ok (.iadd, 1) := by decide +kernel
theorem d_R_put_48 : decode b_R_put 48 = .ok (.iload_n 3, 1) := by decide +kernel
theorem d_R_put_49 : decode b_R_put 49 = .ok (.iadd, 1) := by decide +kernel
theorem d_R_put_50 : decode b_R_put 50 = .ok (.iconst 1, 1) := by decide +kernel
theorem d_R_put_51 : decode b_R_put 51 = .ok (.bastore, 1) := by decide +kernel
theorem d_R_put_52 : decode b_R_put 52 = .ok (.aload_n 0, 1) := by decide +kernel
theorem d_R_put_53 : decode b_R_put 53 = .ok (.getfield 20, 3) := by decide +kernel
theorem d_R_put_56 : decode b_R_put 56 = .ok (.bipush 64, 2) := by decide +kernel
theorem d_R_put_58 : decode b_R_put 58 = .ok (.iload_n 1, 1) := by decide +kernel
theorem d_R_put_59 : decode b_R_put 59 = .ok (.imul, 1) := by decide +kernel
theorem d_R_put_60 : decode b_R_put 60 = .ok (.bipush 8, 2) := by decide +kernel
theorem d_R_put_62 : decode b_R_put 62 = .ok (.iload_n 2, 1) := by decide +kernel
theorem d_R_put_63 : decode b_R_put 63 = .ok (.imul, 1) := by decide +kernel
theorem d_R_put_64 : decode b_R_put 64 = .ok (.iadd, 1) := by decide +kernel
theorem d_R_put_65 : decode b_R_put 65 = .ok (.iload_n 3, 1) := by decide +kernel
theorem d_R_put_66 : decode b_R_put 66 = .ok (.iadd, 1) := by decide +kernel
theorem d_R_put_67 : decode b_R_put 67 = .ok (.lload 4, 2) := by decide +kernel
theorem d_R_put_69 : decode b_R_put 69 = .ok (.lastore, 1) := by decide +kernel
theorem d_R_put_70 : decode b_R_put 70 = .ok (.return_, 1) := by decide +kernel
theorem d_R_drop_0 : decode b_R_drop 0 = .ok (.aload_n 0, 1) := by decide +kernel
theorem d_R_drop_1 : decode b_R_drop 1 = .ok (.aload_n 0, 1) := by decide +kernel
theorem d_R_drop_2 : decode b_R_drop 2 = .ok (.iload_n 1, 1) := by decide +kernel
theorem d_R_drop_3 : decode b_R_drop 3 = .ok (.iload_n 2, 1) := by decide +kernel
theorem d_R_drop_4 : decode b_R_drop 4 = .ok (.iload_n 3, 1) := by decide +kernel
theorem d_R_drop_5 : decode b_R_drop 5 = .ok (.invokevirtual 42, 3) := by decide +kernel
theorem d_R_drop_8 : decode b_R_drop 8 = .ok (.ifCond .eq 7, 3) := by decide +kernel
theorem d_R_drop_11 : decode b_R_drop 11 = .ok (.iconst 0, 1) := by decide +kernel
theorem d_R_drop_12 : decode b_R_drop 12 = .ok (.goto 4, 3) := by decide +kernel
theorem d_R_drop_15 : decode b_R_drop 15 = .ok (.iconst 1, 1) := by decide +kernel
theorem d_R_drop_16 : decode b_R_drop 16 = .ok (.putfield 30, 3) := by decide +kernel
theorem d_R_drop_19 : decode b_R_drop 19 = .ok (.aload_n 0, 1) := by decide +kernel
theorem d_R_drop_20 : decode b_R_drop 20 = .ok (.getfield 30, 3) := by decide +kernel
theorem d_R_drop_23 : decode b_R_drop 23 = .ok (.ifCond .le 5, 3) := by decide +kernel
theorem d_R_drop_26 : decode b_R_drop 26 = .ok (.iconst 0, 1) := by decide +kernel
theorem d_R_drop_27 : decode b_R_drop 27 = .ok (.ireturn, 1) := by decide +kernel
theorem d_R_drop_28 : decode b_R_drop 28 = .ok (.aload_n 0, 1) := by decide +kernel
theorem d_R_drop_29 : decode b_R_drop 29 = .ok (.getfield 16, 3) := by decide +kernel
theorem d_R_drop_32 : decode b_R_drop 32 = .ok (.bipush 64, 2) := by decide +kernel
theorem d_R_drop_34 : decode b_R_drop 34 = .ok (.iload_n 1, 1) := by decide +kernel
theorem d_R_drop_35 : decode b_R_drop 35 = .ok (.imul, 1) := by decide +kernel
theorem d_R_drop_36 : decode b_R_drop 36 = .ok (.bipush 8, 2) := by decide +kernel
theorem d_R_drop_38 : decode b_R_drop 38 = .ok (.iload_n 2, 1) := by decide +kernel
theorem d_R_drop_39 : decode b_R_drop 39 = .ok (.imul, 1) := by decide +kernel
theorem d_R_drop_40 : decode b_R_drop 40 = .ok (.iadd, 1) := by decide +kernel
theorem d_R_drop_41 : decode b_R_drop 41 = .ok (.iload_n 3, 1) := by decide +kernel
theorem d_R_drop_42 : decode b_R_drop 42 = .ok (.iadd, 1) := by decide +kernel
theorem d_R_drop_43 : decode b_R_drop 43 = .ok (.baload, 1) := by decide +kernel
theorem d_R_drop_44 : decode b_R_drop 44 = .ok (.istore 4, 2) := by decide +kernel
theorem d_R_drop_46 : decode b_R_drop 46 = .ok (.aload_n 0, 1) := by decide +kernel
theorem d_R_drop_47 : decode b_R_drop 47 = .ok (.getfield 16, 3) := by decide +kernel
theorem d_R_drop_50 : decode b_R_drop 50 = .ok (.bipush 64, 2) := by decide +kernel
theorem d_R_drop_52 : decode b_R_drop 52 = .ok (.iload_n 1, 1) := by decide +kernel
theorem d_R_drop_53 : decode b_R_drop 53 = .ok (.imul, 1) := by decide +kernel
theorem d_R_drop_54 : decode b_R_drop 54 = .ok (.bipush 8, 2) := by decide +kernel
theorem d_R_drop_56 : decode b_R_drop 56 = .ok (.iload_n 2, 1) := by decide +kernel
theorem d_R_drop_57 : decode b_R_drop 57 = .ok (.imul, 1) := by decide +kernel
theorem d_R_drop_58 : decode b_R_drop 58 = .ok (.iadd, 1) := by decide +kernel
theorem d_R_drop_59 : decode b_R_drop 59 = .ok (.iload_n 3, 1) := by decide +kernel
theorem d_R_drop_60 : decode b_R_drop 60 = .ok (.iadd, 1) := by decide +kernel
theorem d_R_drop_61 : decode b_R_drop 61 = .ok (.iconst 0, 1) := by decide +kernel
theorem d_R_drop_62 : decode b_R_drop 62 = .ok (.bastore, 1) := by decide +kernel
theorem d_R_drop_63 : decode b_R_drop 63 = .ok (.iload 4, 2) := by decide +kernel
theorem d_R_drop_65 : decode b_R_drop 65 = .ok (.ireturn, 1) := by decide +kernel
theorem d_R_at_0 : decode b_R_at 0 = .ok (.aload_n 0, 1) := by decide +kernel
theorem d_R_at_1 : decode b_R_at 1 = .ok (.aload_n 0, 1) := by decide +kernel
theorem d_R_at_2 : decode b_R_at 2 = .ok (.iload_n 1, 1) := by decide +kernel
theorem d_R_at_3 : decode b_R_at 3 = .ok (.iload_n 2, 1) := by decide +kernel
theorem d_R_at_4 : decode b_R_at 4 = .ok (.iload_n 3, 1) := by decide +kernel
theorem d_R_at_5 : decode b_R_at 5 = .ok (.invokevirtual 42, 3) := by decide +kernel
theorem d_R_at_8 : decode b_R_at 8 = .ok (.ifCond .ne 7, 3) := by decide +kernel
theorem d_R_at_11 : decode b_R_at 11 = .ok (.iconst 1, 1) := by decide +kernel
theorem d_R_at_12 : decode b_R_at 12 = .ok (.goto 27, 3) := by decide +kernel
theorem d_R_at_15 : decode b_R_at 15 = .ok (.aload_n 0, 1) := by decide +kernel
theorem d_R_at_16 : decode b_R_at 16 = .ok (.getfield 16, 3) := by decide +kernel
theorem d_R_at_19 : decode b_R_at 19 = .ok (.bipush 64, 2) := by decide +kernel
theorem d_R_at_21 : decode b_R_at 21 = .ok (.iload_n 1, 1) := by decide +kernel
theorem d_R_at_22 : decode b_R_at 22 = .ok (.imul, 1) := by decide +kernel
theorem d_R_at_23 : decode b_R_at 23 = .ok (.bipush 8, 2) := by decide +kernel
theorem d_R_at_25 : decode b_R_at 25 = .ok (.iload_n 2, 1) := by decide +kernel
theorem d_R_at_26 : decode b_R_at 26 = .ok (.imul, 1) := by decide +kernel
theorem d_R_at_27 : decode b_R_at 27 = .ok (.iadd, 1) := by decide +kernel
theorem d_R_at_28 : decode b_R_at 28 = .ok (.iload_n 3, 1) := by decide +kernel
theorem d_R_at_29 : decode b_R_at 29 = .ok (.iadd, 1) := by decide +kernel
theorem d_R_at_30 : decode b_R_at 30 = .ok (.baload, 1) := by decide +kernel
theorem d_R_at_31 : decode b_R_at 31 = .ok (.ifCond .ne 7, 3) := by decide +kernel
theorem d_R_at_34 : decode b_R_at 34 = .ok (.iconst 2, 1) := by decide +kernel
theorem d_R_at_35 : decode b_R_at 35 = .ok (.goto 4, 3) := by decide +kernel
theorem d_R_at_38 : decode b_R_at 38 = .ok (.iconst 0, 1) := by decide +kernel
theorem d_R_at_39 : decode b_R_at 39 = .ok (.putfield 30, 3) := by decide +kernel
theorem d_R_at_42 : decode b_R_at 42 = .ok (.aload_n 0, 1) := by decide +kernel
theorem d_R_at_43 : decode b_R_at 43 = .ok (.getfield 30, 3) := by decide +kernel
theorem d_R_at_46 : decode b_R_at 46 = .ok (.ifCond .le 7, 3) := by decide +kernel
theorem d_R_at_49 : decode b_R_at 49 = .ok (.lconst 0, 1) := by decide +kernel
theorem d_R_at_50 : decode b_R_at 50 = .ok (.goto 19, 3) := by decide +kernel
theorem d_R_at_53 : decode b_R_at 53 = .ok (.aload_n 0, 1) := by decide +kernel
theorem d_R_at_54 : decode b_R_at 54 = .ok (.getfield 20, 3) := by decide +kernel
theorem d_R_at_57 : decode b_R_at 57 = .ok (.bipush 64, 2) := by decide +kernel
theorem d_R_at_59 : decode b_R_at 59 = .ok (.iload_n 1, 1) := by decide +kernel
theorem d_R_at_60 : decode b_R_at 60 = .ok (.imul, 1) := by decide +kernel
theorem d_R_at_61 : decode b_R_at 61 = .ok (.bipush 8, 2) := by decide +kernel
theorem d_R_at_63 : decode b_R_at 63 = .ok (.iload_n 2, 1) := by decide +kernel
theorem d_R_at_64 : decode b_R_at 64 = .ok (.imul, 1) := by decide +kernel
theorem d_R_at_65 : decode b_R_at 65 = .ok (.iadd, 1) := by decide +kernel
theorem d_R_at_66 : decode b_R_at 66 = .ok (.iload_n 3, 1) := by decide +kernel
theorem d_R_at_67 : decode b_R_at 67 = .ok (.iadd, 1) := by decide +kernel
theorem d_R_at_68 : decode b_R_at 68 = .ok (.laload, 1) := by decide +kernel
theorem d_R_at_69 : decode b_R_at 69 = .ok (.lreturn, 1) := by decide +kernel
theorem d_R_entries_0 : decode b_R_entries 0 = .ok (.iconst 0, 1) := by decide +kernel
theorem d_R_entries_1 : decode b_R_entries 1 = .ok (.istore_n 2, 1) := by decide +kernel
theorem d_R_entries_2 : decode b_R_entries 2 = .ok (.bipush 64, 2) := by decide +kernel
theorem d_R_entries_4 : decode b_R_entries 4 = .ok (.iload_n 1, 1) := by decide +kernel
theorem d_R_entries_5 : decode b_R_entries 5 = .ok (.imul, 1) := by decide +kernel
theorem d_R_entries_6 : decode b_R_entries 6 = .ok (.istore_n 3, 1) := by decide +kernel
theorem d_R_entries_7 : decode b_R_entries 7 = .ok (.iload_n 3, 1) := by decide +kernel
theorem d_R_entries_8 : decode b_R_entries 8 = .ok (.bipush 64, 2) := by decide +kernel
theorem d_R_entries_10 : decode b_R_entries 10 = .ok (.iload_n 1, 1) := by decide +kernel
theorem d_R_entries_11 : decode b_R_entries 11 = .ok (.imul, 1) := by decide +kernel
theorem d_R_entries_12 : decode b_R_entries 12 = .ok (.bipush 64, 2) := by decide +kernel
theorem d_R_entries_14 : decode b_R_entries 14 = .ok (.iadd, 1) := by decide +kernel
theorem d_R_entries_15 : decode b_R_entries 15 = .ok (.if_icmp .ge 26, 3) := by decide +kernel
theorem d_R_entries_18 : decode b_R_entries 18 = .ok (.iload_n 2, 1) := by decide +kernel
theorem d_R_entries_19 : decode b_R_entries 19 = .ok (.aload_n 0, 1) := by decide +kernel
theorem d_R_entries_20 : decode b_R_entries 20 = .ok (.getfield 16, 3) := by decide +kernel
theorem d_R_entries_23 : decode b_R_entries 23 = .ok (.iload_n 3, 1) := by decide +kernel
theorem d_R_entries_24 : decode b_R_entries 24 = .ok (.baload, 1) := by decide +kernel
theorem d_R_entries_25 : decode b_R_entries 25 = .ok (.ifCond .eq 7, 3) := by decide +kernel
theorem d_R_entries_28 : decode b_R_entries 28 = .ok (.iconst 1, 1) := by decide +kernel
theorem d_R_entries_29 : decode b_R_entries 29 = .ok (.goto 4, 3) := by decide +kernel
theorem d_R_entries_32 : decode b_R_entries 32 = .ok (.iconst 0, 1) := by decide +kernel
theorem d_R_entries_33 : decode b_R_entries 33 = .ok (.iadd, 1) := by decide +kernel
theorem d_R_entries_34 : decode b_R_entries 34 = .ok (.istore_n 2, 1) := by decide +kernel
theorem d_R_entries_35 : decode b_R_entries 35 = .ok (.iinc 3 1, 3) := by decide +kernel
theorem d_R_entries_38 : decode b_R_entries 38 = .ok (.goto (-31), 3) := by decide +kernel
theorem d_R_entries_41 : decode b_R_entries 41 = .ok (.iload_n 2, 1) := by decide +kernel
theorem d_R_entries_42 : decode b_R_entries 42 = .ok (.ireturn, 1) := by decide +kernel
theorem d_R_size_0 : decode b_R_size 0 = .ok (.aload_n 0, 1) := by decide +kernel
theorem d_R_size_1 : decode b_R_size 1 = .ok (.iload_n 1, 1) := by decide +kernel
theorem d_R_size_2 : decode b_R_size 2 = .ok (.invokestatic 38, 3) := by decide +kernel
theorem d_R_size_5 : decode b_R_size 5 = .ok (.ifCond .eq 7, 3) := by decide +kernel
theorem d_R_size_8 : decode b_R_size 8 = .ok (.iconst 0, 1) := by decide +kernel
theorem d_R_size_9 : decode b_R_size 9 = .ok (.goto 4, 3) := by decide +kernel
theorem d_R_size_12 : decode b_R_size 12 = .ok (.iconst 1, 1) := by decide +kernel
theorem d_R_size_13 : decode b_R_size 13 = .ok (.putfield 30, 3) := by decide +kernel
theorem d_R_size_16 : decode b_R_size 16 = .ok (.aload_n 0, 1) := by decide +kernel
theorem d_R_size_17 : decode b_R_size 17 = .ok (.getfield 30, 3) := by decide +kernel
theorem d_R_size_20 : decode b_R_size 20 = .ok (.ifCond .le 7, 3) := by decide +kernel
theorem d_R_size_23 : decode b_R_size 23 = .ok (.iconst 0, 1) := by decide +kernel
theorem d_R_size_24 : decode b_R_size 24 = .ok (.goto 29, 3) := by decide +kernel
theorem d_R_size_27 : decode b_R_size 27 = .ok (.aload_n 0, 1) := by decide +kernel
theorem d_R_size_28 : decode b_R_size 28 = .ok (.getfield 7, 3) := by decide +kernel
theorem d_R_size_31 : decode b_R_size 31 = .ok (.iload_n 1, 1) := by decide +kernel
theorem d_R_size_32 : decode b_R_size 32 = .ok (.iaload, 1) := by decide +kernel
theorem d_R_size_33 : decode b_R_size 33 = .ok (.bipush 16, 2) := by decide +kernel
theorem d_R_size_35 : decode b_R_size 35 = .ok (.aload_n 0, 1) := by decide +kernel
theorem d_R_size_36 : decode b_R_size 36 = .ok (.getfield 13, 3) := by decide +kernel
theorem d_R_size_39 : decode b_R_size 39 = .ok (.iload_n 1, 1) := by decide +kernel
theorem d_R_size_40 : decode b_R_size 40 = .ok (.iaload, 1) := by decide +kernel
theorem d_R_size_41 : decode b_R_size 41 = .ok (.imul, 1) := by decide +kernel
theorem d_R_size_42 : decode b_R_size 42 = .ok (.iadd, 1) := by decide +kernel
theorem d_R_size_43 : decode b_R_size 43 = .ok (.sipush 256, 3) := by decide +kernel
theorem d_R_size_46 : decode b_R_size 46 = .ok (.aload_n 0, 1) := by decide +kernel
theorem d_R_size_47 : decode b_R_size 47 = .ok (.iload_n 1, 1) := by decide +kernel
theorem d_R_size_48 : decode b_R_size 48 = .ok (.invokevirtual 50, 3) := by decide +kernel
theorem d_R_size_51 : decode b_R_size 51 = .ok (.imul, 1) := by decide +kernel
theorem d_R_size_52 : decode b_R_size 52 = .ok (.iadd, 1) := by decide +kernel
theorem d_R_size_53 : decode b_R_size 53 = .ok (.ireturn, 1) := by decide +kernel
theorem d_R_sum_0 : decode b_R_sum 0 = .ok (.iload_n 1, 1) := by decide +kernel
theorem d_R_sum_1 : decode b_R_sum 1 = .ok (.tableswitch 77 0 2 #[27, 36, 54], 27) := by decide +kernel
theorem d_R_sum_28 : decode b_R_sum 28 = .ok (.lload_n 2, 1) := by decide +kernel
theorem d_R_sum_29 : decode b_R_sum 29 = .ok (.lload 4, 2) := by decide +kernel
theorem d_R_sum_31 : decode b_R_sum 31 = .ok (.ladd, 1) := by decide +kernel
theorem d_R_sum_32 : decode b_R_sum 32 = .ok (.lstore 6, 2) := by decide +kernel
theorem d_R_sum_34 : decode b_R_sum 34 = .ok (.goto 59, 3) := by decide +kernel
theorem d_R_sum_37 : decode b_R_sum 37 = .ok (.lload_n 2, 1) := by decide +kernel
theorem d_R_sum_38 : decode b_R_sum 38 = .ok (.lload 4, 2) := by decide +kernel
theorem d_R_sum_40 : decode b_R_sum 40 = .ok (.lcmp, 1) := by decide +kernel
theorem d_R_sum_41 : decode b_R_sum 41 = .ok (.ifCond .ge 7, 3) := by decide +kernel
theorem d_R_sum_44 : decode b_R_sum 44 = .ok (.lload_n 2, 1) := by decide +kernel
theorem d_R_sum_45 : decode b_R_sum 45 = .ok (.goto 5, 3) := by decide +kernel
theorem d_R_sum_48 : decode b_R_sum 48 = .ok (.lload 4, 2) := by decide +kernel
theorem d_R_sum_50 : decode b_R_sum 50 = .ok (.lstore 6, 2) := by decide +kernel
theorem d_R_sum_52 : decode b_R_sum 52 = .ok (.goto 41, 3) := by decide +kernel
theorem d_R_sum_55 : decode b_R_sum 55 = .ok (.lload_n 2, 1) := by decide +kernel
theorem d_R_sum_56 : decode b_R_sum 56 = .ok (.lconst 0, 1) := by decide +kernel
theorem d_R_sum_57 : decode b_R_sum 57 = .ok (.lcmp, 1) := by decide +kernel
theorem d_R_sum_58 : decode b_R_sum 58 = .ok (.ifCond .ne 10, 3) := by decide +kernel
theorem d_R_sum_61 : decode b_R_sum 61 = .ok (.lload 4, 2) := by decide +kernel
theorem d_R_sum_63 : decode b_R_sum 63 = .ok (.lconst 0, 1) := by decide +kernel
theorem d_R_sum_64 : decode b_R_sum 64 = .ok (.lcmp, 1) := by decide +kernel
theorem d_R_sum_65 : decode b_R_sum 65 = .ok (.ifCond .eq 7, 3) := by decide +kernel
theorem d_R_sum_68 : decode b_R_sum 68 = .ok (.lconst 1, 1) := by decide +kernel
theorem d_R_sum_69 : decode b_R_sum 69 = .ok (.goto 4, 3) := by decide +kernel
theorem d_R_sum_72 : decode b_R_sum 72 = .ok (.lconst 0, 1) := by decide +kernel
theorem d_R_sum_73 : decode b_R_sum 73 = .ok (.lstore 6, 2) := by decide +kernel
theorem d_R_sum_75 : decode b_R_sum 75 = .ok (.goto 18, 3) := by decide +kernel
theorem d_R_sum_78 : decode b_R_sum 78 = .ok (.lload_n 2, 1) := by decide +kernel
theorem d_R_sum_79 : decode b_R_sum 79 = .ok (.lload 4, 2) := by decide +kernel
theorem d_R_sum_81 : decode b_R_sum 81 = .ok (.lcmp, 1) := by decide +kernel
theorem d_R_sum_82 : decode b_R_sum 82 = .ok (.ifCond .le 7, 3) := by decide +kernel
theorem d_R_sum_85 : decode b_R_sum 85 = .ok (.lload_n 2, 1) := by decide +kernel
theorem d_R_sum_86 : decode b_R_sum 86 = .ok (.goto 5, 3) := by decide +kernel
theorem d_R_sum_89 : decode b_R_sum 89 = .ok (.lload 4, 2) := by decide +kernel
theorem d_R_sum_91 : decode b_R_sum 91 = .ok (.lstore 6, 2) := by decide +kernel
theorem d_R_sum_93 : decode b_R_sum 93 = .ok (.aload_n 0, 1) := by decide +kernel
theorem d_R_sum_94 : decode b_R_sum 94 = .ok (.aload_n 0, 1) := by decide +kernel
theorem d_R_sum_95 : decode b_R_sum 95 = .ok (.getfield 54, 3) := by decide +kernel
theorem d_R_sum_98 : decode b_R_sum 98 = .ok (.ifCond .ne 11, 3) := by decide +kernel
theorem d_R_sum_101 : decode b_R_sum 101 = .ok (.lload 6, 2) := by decide +kernel
theorem d_R_sum_103 : decode b_R_sum 103 = .ok (.invokestatic 46, 3) := by decide +kernel
theorem d_R_sum_106 : decode b_R_sum 106 = .ok (.ifCond .ne 7, 3) := by decide +kernel
theorem d_R_sum_109 : decode b_R_sum 109 = .ok (.iconst 1, 1) := by decide +kernel
theorem d_R_sum_110 : decode b_R_sum 110 = .ok (.goto 4, 3) := by decide +kernel
theorem d_R_sum_113 : decode b_R_sum 113 = .ok (.iconst 0, 1) := by decide +kernel
theorem d_R_sum_114 : decode b_R_sum 114 = .ok (.putfield 54, 3) := by decide +kernel
theorem d_R_sum_117 : decode b_R_sum 117 = .ok (.lload 6, 2) := by decide +kernel
theorem d_R_sum_119 : decode b_R_sum 119 = .ok (.lreturn, 1) := by decide +kernel
theorem d_R_size0_0 : decode b_R_size0 0 = .ok (.lload_n 0, 1) := by decide +kernel
theorem d_R_size0_1 : decode b_R_size0 1 = .ok (.lconst 0, 1) := by decide +kernel
theorem d_R_size0_2 : decode b_R_size0 2 = .ok (.lcmp, 1) := by decide +kernel
theorem d_R_size0_3 : decode b_R_size0 3 = .ok (.ifCond .ge 8, 3) := by decide +kernel
theorem d_R_size0_6 : decode b_R_size0 6 = .ok (.lload_n 0, 1) := by decide +kernel
theorem d_R_size0_7 : decode b_R_size0 7 = .ok (.lneg, 1) := by decide +kernel
theorem d_R_size0_8 : decode b_R_size0 8 = .ok (.goto 4, 3) := by decide +kernel
theorem d_R_size0_11 : decode b_R_size0 11 = .ok (.lload_n 0, 1) := by decide +kernel
theorem d_R_size0_12 : decode b_R_size0 12 = .ok (.lreturn, 1) := by decide +kernel
theorem d_R_product_0 : decode b_R_product 0 = .ok (.iload_n 1, 1) := by decide +kernel
theorem d_R_product_1 : decode b_R_product 1 = .ok (.ifCond .ne 34, 3) := by decide +kernel
theorem d_R_product_4 : decode b_R_product 4 = .ok (.lload 4, 2) := by decide +kernel
theorem d_R_product_6 : decode b_R_product 6 = .ok (.lconst 0, 1) := by decide +kernel
theorem d_R_product_7 : decode b_R_product 7 = .ok (.lcmp, 1) := by decide +kernel
theorem d_R_product_8 : decode b_R_product 8 = .ok (.ifCond .eq 27, 3) := by decide +kernel
theorem d_R_product_11 : decode b_R_product 11 = .ok (.lload_n 2, 1) := by decide +kernel
theorem d_R_product_12 : decode b_R_product 12 = .ok (.invokestatic 58, 3) := by decide +kernel
theorem d_R_product_15 : decode b_R_product 15 = .ok (.ldc2_w 36, 3) := by decide +kernel
theorem d_R_product_18 : decode b_R_product 18 = .ok (.lload 4, 2) := by decide +kernel
theorem d_R_product_20 : decode b_R_product 20 = .ok (.invokestatic 58, 3) := by decide +kernel
theorem d_R_product_23 : decode b_R_product 23 = .ok (.ldiv, 1) := by decide +kernel
theorem d_R_product_24 : decode b_R_product 24 = .ok (.lcmp, 1) := by decide +kernel
theorem d_R_product_25 : decode b_R_product 25 = .ok (.ifCond .le 10, 3) := by decide +kernel
theorem d_R_product_28 : decode b_R_product 28 = .ok (.aload_n 0, 1) := by decide +kernel
theorem d_R_product_29 : decode b_R_product 29 = .ok (.iconst 1, 1) := by decide +kernel
theorem d_R_product_30 : decode b_R_product 30 = .ok (.putfield 54, 3) := by decide +kernel
theorem d_R_product_33 : decode b_R_product 33 = .ok (.lconst 0, 1) := by decide +kernel
theorem d_R_product_34 : decode b_R_product 34 = .ok (.lreturn, 1) := by decide +kernel
theorem d_R_product_35 : decode b_R_product 35 = .ok (.iload_n 1, 1) := by decide +kernel
theorem d_R_product_36 : decode b_R_product 36 = .ok (.tableswitch 69 0 2 #[28, 37, 46], 28) := by decide +kernel
theorem d_R_product_64 : decode b_R_product 64 = .ok (.lload_n 2, 1) := by decide +kernel
theorem d_R_product_65 : decode b_R_product 65 = .ok (.lload 4, 2) := by decide +kernel
theorem d_R_product_67 : decode b_R_product 67 = .ok (.lmul, 1) := by decide +kernel
theorem d_R_product_68 : decode b_R_product 68 = .ok (.lstore 6, 2) := by decide +kernel
theorem d_R_product_70 : decode b_R_product 70 = .ok (.goto 50, 3) := by decide +kernel
theorem d_R_product_73 : decode b_R_product 73 = .ok (.lload_n 2, 1) := by decide +kernel
theorem d_R_product_74 : decode b_R_product 74 = .ok (.lload 4, 2) := by decide +kernel
theorem d_R_product_76 : decode b_R_product 76 = .ok (.ladd, 1) := by decide +kernel
theorem d_R_product_77 : decode b_R_product 77 = .ok (.lstore 6, 2) := by decide +kernel
theorem d_R_product_79 : decode b_R_product 79 = .ok (.goto 41, 3) := by decide +kernel
theorem d_R_product_82 : decode b_R_product 82 = .ok (.lload_n 2, 1) := by decide +kernel
theorem d_R_product_83 : decode b_R_product 83 = .ok (.lconst 0, 1) := by decide +kernel
theorem d_R_product_84 : decode b_R_product 84 = .ok (.lcmp, 1) := by decide +kernel
theorem d_R_product_85 : decode b_R_product 85 = .ok (.ifCond .eq 14, 3) := by decide +kernel
theorem d_R_product_88 : decode b_R_product 88 = .ok (.lload 4, 2) := by decide +kernel
theorem d_R_product_90 : decode b_R_product 90 = .ok (.lconst 0, 1) := by decide +kernel
theorem d_R_product_91 : decode b_R_product 91 = .ok (.lcmp, 1) := by decide +kernel
theorem d_R_product_92 : decode b_R_product 92 = .ok (.ifCond .eq 7, 3) := by decide +kernel
theorem d_R_product_95 : decode b_R_product 95 = .ok (.lconst 1, 1) := by decide +kernel
theorem d_R_product_96 : decode b_R_product 96 = .ok (.goto 4, 3) := by decide +kernel
theorem d_R_product_99 : decode b_R_product 99 = .ok (.lconst 0, 1) := by decide +kernel
theorem d_R_product_100 : decode b_R_product 100 = .ok (.lstore 6, 2) := by decide +kernel
theorem d_R_product_102 : decode b_R_product 102 = .ok (.goto 18, 3) := by decide +kernel
theorem d_R_product_105 : decode b_R_product 105 = .ok (.lload_n 2, 1) := by decide +kernel
theorem d_R_product_106 : decode b_R_product 106 = .ok (.lload 4, 2) := by decide +kernel
theorem d_R_product_108 : decode b_R_product 108 = .ok (.lcmp, 1) := by decide +kernel
theorem d_R_product_109 : decode b_R_product 109 = .ok (.ifCond .ge 7, 3) := by decide +kernel
theorem d_R_product_112 : decode b_R_product 112 = .ok (.lload_n 2, 1) := by decide +kernel
theorem d_R_product_113 : decode b_R_product 113 = .ok (.goto 5, 3) := by decide +kernel
theorem d_R_product_116 : decode b_R_product 116 = .ok (.lload 4, 2) := by decide +kernel
theorem d_R_product_118 : decode b_R_product 118 = .ok (.lstore 6, 2) := by decide +kernel
theorem d_R_product_120 : decode b_R_product 120 = .ok (.aload_n 0, 1) := by decide +kernel
theorem d_R_product_121 : decode b_R_product 121 = .ok (.aload_n 0, 1) := by decide +kernel
theorem d_R_product_122 : decode b_R_product 122 = .ok (.getfield 54, 3) := by decide +kernel
theorem d_R_product_125 : decode b_R_product 125 = .ok (.ifCond .ne 11, 3) := by decide +kernel
theorem d_R_product_128 : decode b_R_product 128 = .ok (.lload 6, 2) := by decide +kernel
theorem d_R_product_130 : decode b_R_product 130 = .ok (.invokestatic 46, 3) := by decide +kernel
theorem d_R_product_133 : decode b_R_product 133 = .ok (.ifCond .ne 7, 3) := by decide +kernel
theorem d_R_product_136 : decode b_R_product 136 = .ok (.iconst 1, 1) := by decide +kernel
theorem d_R_product_137 : decode b_R_product 137 = .ok (.goto 4, 3) := by decide +kernel
theorem d_R_product_140 : decode b_R_product 140 = .ok (.iconst 0, 1) := by decide +kernel
theorem d_R_product_141 : decode b_R_product 141 = .ok (.putfield 54, 3) := by decide +kernel
theorem d_R_product_144 : decode b_R_product 144 = .ok (.lload 6, 2) := by decide +kernel
theorem d_R_product_146 : decode b_R_product 146 = .ok (.lreturn, 1) := by decide +kernel
theorem d_R_begin_0 : decode b_R_begin 0 = .ok (.aload_n 0, 1) := by decide +kernel
theorem d_R_begin_1 : decode b_R_begin 1 = .ok (.iload_n 1, 1) := by decide +kernel
theorem d_R_begin_2 : decode b_R_begin 2 = .ok (.putfield 62, 3) := by decide +kernel
theorem d_R_begin_5 : decode b_R_begin 5 = .ok (.aload_n 0, 1) := by decide +kernel
theorem d_R_begin_6 : decode b_R_begin 6 = .ok (.iload_n 2, 1) := by decide +kernel
theorem d_R_begin_7 : decode b_R_begin 7 = .ok (.putfield 65, 3) := by decide +kernel
theorem d_R_begin_10 : decode b_R_begin 10 = .ok (.aload_n 0, 1) := by decide +kernel
theorem d_R_begin_11 : decode b_R_begin 11 = .ok (.iconst 0, 1) := by decide +kernel
theorem d_R_begin_12 : decode b_R_begin 12 = .ok (.putfield 54, 3) := by decide +kernel
theorem d_R_begin_15 : decode b_R_begin 15 = .ok (.iconst 0, 1) := by decide +kernel
theorem d_R_begin_16 : decode b_R_begin 16 = .ok (.istore_n 3, 1) := by decide +kernel
theorem d_R_begin_17 : decode b_R_begin 17 = .ok (.iload_n 3, 1) := by decide +kernel
theorem d_R_begin_18 : decode b_R_begin 18 = .ok (.bipush 64, 2) := by decide +kernel
theorem d_R_begin_20 : decode b_R_begin 20 = .ok (.if_icmp .ge 16, 3) := by decide +kernel
theorem d_R_begin_23 : decode b_R_begin 23 = .ok (.aload_n 0, 1) := by decide +kernel
theorem d_R_begin_24 : decode b_R_begin 24 = .ok (.getfield 24, 3) := by decide +kernel
theorem d_R_begin_27 : decode b_R_begin 27 = .ok (.iload_n 3, 1) := by decide +kernel
theorem d_R_begin_28 : decode b_R_begin 28 = .ok (.iconst 0, 1) := by decide +kernel
theorem d_R_begin_29 : decode b_R_begin 29 = .ok (.bastore, 1) := by decide +kernel
theorem d_R_begin_30 : decode b_R_begin 30 = .ok (.iinc 3 1, 3) := by decide +kernel
theorem d_R_begin_33 : decode b_R_begin 33 = .ok (.goto (-16), 3) := by decide +kernel
theorem d_R_begin_36 : decode b_R_begin 36 = .ok (.return_, 1) := by decide +kernel
theorem d_R_make_0 : decode b_R_make 0 = .ok (.aload_n 0, 1) := by decide +kernel
theorem d_R_make_1 : decode b_R_make 1 = .ok (.getfield 24, 3) := by decide +kernel
theorem d_R_make_4 : decode b_R_make 4 = .ok (.bipush 8, 2) := by decide +kernel
theorem d_R_make_6 : decode b_R_make 6 = .ok (.iload_n 1, 1) := by decide +kernel
theorem d_R_make_7 : decode b_R_make 7 = .ok (.imul, 1) := by decide +kernel
theorem d_R_make_8 : decode b_R_make 8 = .ok (.iload_n 2, 1) := by decide +kernel
theorem d_R_make_9 : decode b_R_make 9 = .ok (.iadd, 1) := by decide +kernel
theorem d_R_make_10 : decode b_R_make 10 = .ok (.iconst 1, 1) := by decide +kernel
theorem d_R_make_11 : decode b_R_make 11 = .ok (.bastore, 1) := by decide +kernel
theorem d_R_make_12 : decode b_R_make 12 = .ok (.aload_n 0, 1) := by decide +kernel
theorem d_R_make_13 : decode b_R_make 13 = .ok (.getfield 27, 3) := by decide +kernel
theorem d_R_make_16 : decode b_R_make 16 = .ok (.bipush 8, 2) := by decide +kernel
theorem d_R_make_18 : decode b_R_make 18 = .ok (.iload_n 1, 1) := by decide +kernel
theorem d_R_make_19 : decode b_R_make 19 = .ok (.imul, 1) := by decide +kernel
theorem d_R_make_20 : decode b_R_make 20 = .ok (.iload_n 2, 1) := by decide +kernel
theorem d_R_make_21 : decode b_R_make 21 = .ok (.iadd, 1) := by decide +kernel
theorem d_R_make_22 : decode b_R_make 22 = .ok (.lload_n 3, 1) := by decide +kernel
theorem d_R_make_23 : decode b_R_make 23 = .ok (.lastore, 1) := by decide +kernel
theorem d_R_make_24 : decode b_R_make 24 = .ok (.return_, 1) := by decide +kernel
theorem d_R_finish_0 : decode b_R_finish 0 = .ok (.aload_n 0, 1) := by decide +kernel
theorem d_R_finish_1 : decode b_R_finish 1 = .ok (.getfield 7, 3) := by decide +kernel
theorem d_R_finish_4 : decode b_R_finish 4 = .ok (.iload_n 1, 1) := by decide +kernel
theorem d_R_finish_5 : decode b_R_finish 5 = .ok (.aload_n 0, 1) := by decide +kernel
theorem d_R_finish_6 : decode b_R_finish 6 = .ok (.getfield 62, 3) := by decide +kernel
theorem d_R_finish_9 : decode b_R_finish 9 = .ok (.iastore, 1) := by decide +kernel
theorem d_R_finish_10 : decode b_R_finish 10 = .ok (.aload_n 0, 1) := by decide +kernel
theorem d_R_finish_11 : decode b_R_finish 11 = .ok (.getfield 13, 3) := by decide +kernel
theorem d_R_finish_14 : decode b_R_finish 14 = .ok (.iload_n 1, 1) := by decide +kernel
theorem d_R_finish_15 : decode b_R_finish 15 = .ok (.aload_n 0, 1) := by decide +kernel
theorem d_R_finish_16 : decode b_R_finish 16 = .ok (.getfield 65, 3) := by decide +kernel
theorem d_R_finish_19 : decode b_R_finish 19 = .ok (.iastore, 1) := by decide +kernel
theorem d_R_finish_20 : decode b_R_finish 20 = .ok (.iconst 0, 1) := by decide +kernel
theorem d_R_finish_21 : decode b_R_finish 21 = .ok (.istore_n 3, 1) := by decide +kernel
theorem d_R_finish_22 : decode b_R_finish 22 = .ok (.iload_n 3, 1) := by decide +kernel
theorem d_R_finish_23 : decode b_R_finish 23 = .ok (.bipush 64, 2) := by decide +kernel
theorem d_R_finish_25 : decode b_R_finish 25 = .ok (.if_icmp .ge 71, 3) := by decide +kernel
theorem d_R_finish_28 : decode b_R_finish 28 = .ok (.aload_n 0, 1) := by decide +kernel
theorem d_R_finish_29 : decode b_R_finish 29 = .ok (.getfield 16, 3) := by decide +kernel
theorem d_R_finish_32 : decode b_R_finish 32 = .ok (.bipush 64, 2) := by decide +kernel
theorem d_R_finish_34 : decode b_R_finish 34 = .ok (.iload_n 1, 1) := by decide +kernel
theorem d_R_finish_35 : decode b_R_finish 35 = .ok (.imul, 1) := by decide +kernel
theorem d_R_finish_36 : decode b_R_finish 36 = .ok (.iload_n 3, 1) := by decide +kernel
theorem d_R_finish_37 : decode b_R_finish 37 = .ok (.iadd, 1) := by decide +kernel
theorem d_R_finish_38 : decode b_R_finish 38 = .ok (.aload_n 0, 1) := by decide +kernel
theorem d_R_finish_39 : decode b_R_finish 39 = .ok (.getfield 24, 3) := by decide +kernel
theorem d_R_finish_42 : decode b_R_finish 42 = .ok (.iload_n 3, 1) := by decide +kernel
theorem d_R_finish_43 : decode b_R_finish 43 = .ok (.baload, 1) := by decide +kernel
theorem d_R_finish_44 : decode b_R_finish 44 = .ok (.ifCond .eq 27, 3) := by decide +kernel
theorem d_R_finish_47 : decode b_R_finish 47 = .ok (.aload_n 0, 1) := by decide +kernel
theorem d_R_finish_48 : decode b_R_finish 48 = .ok (.getfield 27, 3) := by decide +kernel
theorem d_R_finish_51 : decode b_R_finish 51 = .ok (.iload_n 3, 1) := by decide +kernel
theorem d_R_finish_52 : decode b_R_finish 52 = .ok (.laload, 1) := by decide +kernel
theorem d_R_finish_53 : decode b_R_finish 53 = .ok (.lconst 0, 1) := by decide +kernel
theorem d_R_finish_54 : decode b_R_finish 54 = .ok (.lcmp, 1) := by decide +kernel
theorem d_R_finish_55 : decode b_R_finish 55 = .ok (.ifCond .ne 12, 3) := by decide +kernel
theorem d_R_finish_58 : decode b_R_finish 58 = .ok (.iload_n 2, 1) := by decide +kernel
theorem d_R_finish_59 : decode b_R_finish 59 = .ok (.ifCond .eq 12, 3) := by decide +kernel
theorem d_R_finish_62 : decode b_R_finish 62 = .ok (.iload_n 2, 1) := by decide +kernel
theorem d_R_finish_63 : decode b_R_finish 63 = .ok (.iconst 2, 1) := by decide +kernel
theorem d_R_finish_64 : decode b_R_finish 64 = .ok (.if_icmp .eq 7, 3) := by decide +kernel
theorem d_R_finish_67 : decode b_R_finish 67 = .ok (.iconst 1, 1) := by decide +kernel
theorem d_R_finish_68 : decode b_R_finish 68 = .ok (.goto 4, 3) := by decide +kernel
theorem d_R_finish_71 : decode b_R_finish 71 = .ok (.iconst 0, 1) := by decide +kernel
theorem d_R_finish_72 : decode b_R_finish 72 = .ok (.bastore, 1) := by decide +kernel
theorem d_R_finish_73 : decode b_R_finish 73 = .ok (.aload_n 0, 1) := by decide +kernel
theorem d_R_finish_74 : decode b_R_finish 74 = .ok (.getfield 20, 3) := by decide +kernel
theorem d_R_finish_77 : decode b_R_finish 77 = .ok (.bipush 64, 2) := by decide +kernel
theorem d_R_finish_79 : decode b_R_finish 79 = .ok (.iload_n 1, 1) := by decide +kernel
theorem d_R_finish_80 : decode b_R_finish 80 = .ok (.imul, 1) := by decide +kernel
theorem d_R_finish_81 : decode b_R_finish 81 = .ok (.iload_n 3, 1) := by decide +kernel
theorem d_R_finish_82 : decode b_R_finish 82 = .ok (.iadd, 1) := by decide +kernel
theorem d_R_finish_83 : decode b_R_finish 83 = .ok (.aload_n 0, 1) := by decide +kernel
theorem d_R_finish_84 : decode b_R_finish 84 = .ok (.getfield 27, 3) := by decide +kernel
theorem d_R_finish_87 : decode b_R_finish 87 = .ok (.iload_n 3, 1) := by decide +kernel
theorem d_R_finish_88 : decode b_R_finish 88 = .ok (.laload, 1) := by decide +kernel
theorem d_R_finish_89 : decode b_R_finish 89 = .ok (.lastore, 1) := by decide +kernel
theorem d_R_finish_90 : decode b_R_finish 90 = .ok (.iinc 3 1, 3) := by decide +kernel
theorem d_R_finish_93 : decode b_R_finish 93 = .ok (.goto (-71), 3) := by decide +kernel
theorem d_R_finish_96 : decode b_R_finish 96 = .ok (.aload_n 0, 1) := by decide +kernel
theorem d_R_finish_97 : decode b_R_finish 97 = .ok (.iload_n 1, 1) := by decide +kernel
theorem d_R_finish_98 : decode b_R_finish 98 = .ok (.invokevirtual 50, 3) := by decide +kernel
theorem d_R_finish_101 : decode b_R_finish 101 = .ok (.ireturn, 1) := by decide +kernel
theorem d_R_cross_0 : decode b_R_cross 0 = .ok (.iconst 0, 1) := by decide +kernel
theorem d_R_cross_1 : decode b_R_cross 1 = .ok (.istore 6, 2) := by decide +kernel
theorem d_R_cross_3 : decode b_R_cross 3 = .ok (.lconst 0, 1) := by decide +kernel
theorem d_R_cross_4 : decode b_R_cross 4 = .ok (.lstore 7, 2) := by decide +kernel
theorem d_R_cross_6 : decode b_R_cross 6 = .ok (.iconst 0, 1) := by decide +kernel
theorem d_R_cross_7 : decode b_R_cross 7 = .ok (.istore 9, 2) := by decide +kernel
theorem d_R_cross_9 : decode b_R_cross 9 = .ok (.iload 9, 2) := by decide +kernel
theorem d_R_cross_11 : decode b_R_cross 11 = .ok (.aload_n 0, 1) := by decide +kernel
theorem d_R_cross_12 : decode b_R_cross 12 = .ok (.getfield 13, 3) := by decide +kernel
theorem d_R_cross_15 : decode b_R_cross 15 = .ok (.iload_n 1, 1) := by decide +kernel
theorem d_R_cross_16 : decode b_R_cross 16 = .ok (.iaload, 1) := by decide +kernel
theorem d_R_cross_17 : decode b_R_cross 17 = .ok (.if_icmp .ge 111, 3) := by decide +kernel
theorem d_R_cross_20 : decode b_R_cross 20 = .ok (.aload_n 0, 1) := by decide +kernel
theorem d_R_cross_21 : decode b_R_cross 21 = .ok (.getfield 54, 3) := by decide +kernel
theorem d_R_cross_24 : decode b_R_cross 24 = .ok (.ifCond .ne 104, 3) := by decide +kernel
theorem d_R_cross_27 : decode b_R_cross 27 = .ok (.bipush 64, 2) := by decide +kernel
theorem d_R_cross_29 : decode b_R_cross 29 = .ok (.iload_n 1, 1) := by decide +kernel
theorem d_R_cross_30 : decode b_R_cross 30 = .ok (.imul, 1) := by decide +kernel
theorem d_R_cross_31 : decode b_R_cross 31 = .ok (.bipush 8, 2) := by decide +kernel
theorem d_R_cross_33 : decode b_R_cross 33 = .ok (.iload 4, 2) := by decide +kernel
theorem d_R_cross_35 : decode b_R_cross 35 = .ok (.imul, 1) := by decide +kernel
theorem d_R_cross_36 : decode b_R_cross 36 = .ok (.iadd, 1) := by decide +kernel
theorem d_R_cross_37 : decode b_R_cross 37 = .ok (.iload 9, 2) := by decide +kernel
theorem d_R_cross_39 : decode b_R_cross 39 = .ok (.iadd, 1) := by decide +kernel
theorem d_R_cross_40 : decode b_R_cross 40 = .ok (.istore 10, 2) := by decide +kernel
theorem d_R_cross_42 : decode b_R_cross 42 = .ok (.bipush 64, 2) := by decide +kernel
theorem d_R_cross_44 : decode b_R_cross 44 = .ok (.iload_n 2, 1) := by decide +kernel
theorem d_R_cross_45 : decode b_R_cross 45 = .ok (.imul, 1) := by decide +kernel
theorem d_R_cross_46 : decode b_R_cross 46 = .ok (.bipush 8, 2) := by decide +kernel
theorem d_R_cross_48 : decode b_R_cross 48 = .ok (.iload 9, 2) := by decide +kernel
theorem d_R_cross_50 : decode b_R_cross 50 = .ok (.imul, 1) := by decide +kernel
theorem d_R_cross_51 : decode b_R_cross 51 = .ok (.iadd, 1) := by decide +kernel
theorem d_R_cross_52 : decode b_R_cross 52 = .ok (.iload 5, 2) := by decide +kernel
theorem d_R_cross_54 : decode b_R_cross 54 = .ok (.iadd, 1) := by decide +kernel
theorem d_R_cross_55 : decode b_R_cross 55 = .ok (.istore 11, 2) := by decide +kernel
theorem d_R_cross_57 : decode b_R_cross 57 = .ok (.aload_n 0, 1) := by decide +kernel
theorem d_R_cross_58 : decode b_R_cross 58 = .ok (.getfield 16, 3) := by decide +kernel
theorem d_R_cross_61 : decode b_R_cross 61 = .ok (.iload 10, 2) := by decide +kernel
theorem d_R_cross_63 : decode b_R_cross 63 = .ok (.baload, 1) := by decide +kernel
theorem d_R_cross_64 : decode b_R_cross 64 = .ok (.ifCond .eq 58, 3) := by decide +kernel
theorem d_R_cross_67 : decode b_R_cross 67 = .ok (.aload_n 0, 1) := by decide +kernel
theorem d_R_cross_68 : decode b_R_cross 68 = .ok (.getfield 16, 3) := by decide +kernel
theorem d_R_cross_71 : decode b_R_cross 71 = .ok (.iload 11, 2) := by decide +kernel
theorem d_R_cross_73 : decode b_R_cross 73 = .ok (.baload, 1) := by decide +kernel
theorem d_R_cross_74 : decode b_R_cross 74 = .ok (.ifCond .eq 48, 3) := by decide +kernel
theorem d_R_cross_77 : decode b_R_cross 77 = .ok (.aload_n 0, 1) := by decide +kernel
theorem d_R_cross_78 : decode b_R_cross 78 = .ok (.iload_n 3, 1) := by decide +kernel
theorem d_R_cross_79 : decode b_R_cross 79 = .ok (.aload_n 0, 1) := by decide +kernel
theorem d_R_cross_80 : decode b_R_cross 80 = .ok (.getfield 20, 3) := by decide +kernel
theorem d_R_cross_83 : decode b_R_cross 83 = .ok (.iload 10, 2) := by decide +kernel
theorem d_R_cross_85 : decode b_R_cross 85 = .ok (.laload, 1) := by decide +kernel
theorem d_R_cross_86 : decode b_R_cross 86 = .ok (.aload_n 0, 1) := by decide +kernel
theorem d_R_cross_87 : decode b_R_cross 87 = .ok (.getfield 20, 3) := by decide +kernel
theorem d_R_cross_90 : decode b_R_cross 90 = .ok (.iload 11, 2) := by decide +kernel
theorem d_R_cross_92 : decode b_R_cross 92 = .ok (.laload, 1) := by decide +kernel
theorem d_R_cross_93 : decode b_R_cross 93 = .ok (.invokevirtual 68, 3) := by decide +kernel
theorem d_R_cross_96 : decode b_R_cross 96 = .ok (.lstore 12, 2) := by decide +kernel
theorem d_R_cross_98 : decode b_R_cross 98 = .ok (.iload 6, 2) := by decide +kernel
theorem d_R_cross_100 : decode b_R_cross 100 = .ok (.ifCond .eq 15, 3) := by decide +kernel
theorem d_R_cross_103 : decode b_R_cross 103 = .ok (.aload_n 0, 1) := by decide +kernel
theorem d_R_cross_104 : decode b_R_cross 104 = .ok (.iload_n 3, 1) := by decide +kernel
theorem d_R_cross_105 : decode b_R_cross 105 = .ok (.lload 7, 2) := by decide +kernel
theorem d_R_cross_107 : decode b_R_cross 107 = .ok (.lload 12, 2) := by decide +kernel
theorem d_R_cross_109 : decode b_R_cross 109 = .ok (.invokevirtual 72, 3) := by decide +kernel
theorem d_R_cross_112 : decode b_R_cross 112 = .ok (.goto 5, 3) := by decide +kernel
theorem d_R_cross_115 : decode b_R_cross 115 = .ok (.lload 12, 2) := by decide +kernel
theorem d_R_cross_117 : decode b_R_cross 117 = .ok (.lstore 7, 2) := by decide +kernel
theorem d_R_cross_119 : decode b_R_cross 119 = .ok (.iconst 1, 1) := by decide +kernel
theorem d_R_cross_120 : decode b_R_cross 120 = .ok (.istore 6, 2) := by decide +kernel
theorem d_R_cross_122 : decode b_R_cross 122 = .ok (.iinc 9 1, 3) := by decide +kernel
theorem d_R_cross_125 : decode b_R_cross 125 = .ok (.goto (-116), 3) := by decide +kernel
theorem d_R_cross_128 : decode b_R_cross 128 = .ok (.iload 6, 2) := by decide +kernel
theorem d_R_cross_130 : decode b_R_cross 130 = .ok (.ifCond .eq 13, 3) := by decide +kernel
theorem d_R_cross_133 : decode b_R_cross 133 = .ok (.aload_n 0, 1) := by decide +kernel
theorem d_R_cross_134 : decode b_R_cross 134 = .ok (.iload 4, 2) := by decide +kernel
theorem d_R_cross_136 : decode b_R_cross 136 = .ok (.iload 5, 2) := by decide +kernel
theorem d_R_cross_138 : decode b_R_cross 138 = .ok (.lload 7, 2) := by decide +kernel
theorem d_R_cross_140 : decode b_R_cross 140 = .ok (.invokevirtual 75, 3) := by decide +kernel
theorem d_R_cross_143 : decode b_R_cross 143 = .ok (.return_, 1) := by decide +kernel
theorem d_R_join_0 : decode b_R_join 0 = .ok (.iconst 0, 1) := by decide +kernel
theorem d_R_join_1 : decode b_R_join 1 = .ok (.istore_n 3, 1) := by decide +kernel
theorem d_R_join_2 : decode b_R_join 2 = .ok (.iload_n 3, 1) := by decide +kernel
theorem d_R_join_3 : decode b_R_join 3 = .ok (.bipush 64, 2) := by decide +kernel
theorem d_R_join_5 : decode b_R_join 5 = .ok (.if_icmp .ge 77, 3) := by decide +kernel
theorem d_R_join_8 : decode b_R_join 8 = .ok (.bipush 64, 2) := by decide +kernel
theorem d_R_join_10 : decode b_R_join 10 = .ok (.iload_n 1, 1) := by decide +kernel
theorem d_R_join_11 : decode b_R_join 11 = .ok (.imul, 1) := by decide +kernel
theorem d_R_join_12 : decode b_R_join 12 = .ok (.iload_n 3, 1) := by decide +kernel
theorem d_R_join_13 : decode b_R_join 13 = .ok (.iadd, 1) := by decide +kernel
theorem d_R_join_14 : decode b_R_join 14 = .ok (.istore 4, 2) := by decide +kernel
theorem d_R_join_16 : decode b_R_join 16 = .ok (.aload_n 0, 1) := by decide +kernel
theorem d_R_join_17 : decode b_R_join 17 = .ok (.getfield 16, 3) := by decide +kernel
theorem d_R_join_20 : decode b_R_join 20 = .ok (.iload 4, 2) := by decide +kernel
theorem d_R_join_22 : decode b_R_join 22 = .ok (.baload, 1) := by decide +kernel
theorem d_R_join_23 : decode b_R_join 23 = .ok (.ifCond .eq 53, 3) := by decide +kernel
theorem d_R_join_26 : decode b_R_join 26 = .ok (.aload_n 0, 1) := by decide +kernel
theorem d_R_join_27 : decode b_R_join 27 = .ok (.getfield 27, 3) := by decide +kernel
theorem d_R_join_30 : decode b_R_join 30 = .ok (.iload_n 3, 1) := by decide +kernel
theorem d_R_join_31 : decode b_R_join 31 = .ok (.aload_n 0, 1) := by decide +kernel
theorem d_R_join_32 : decode b_R_join 32 = .ok (.getfield 24, 3) := by decide +kernel
theorem d_R_join_35 : decode b_R_join 35 = .ok (.iload_n 3, 1) := by decide +kernel
theorem d_R_join_36 : decode b_R_join 36 = .ok (.baload, 1) := by decide +kernel
theorem d_R_join_37 : decode b_R_join 37 = .ok (.ifCond .eq 24, 3) := by decide +kernel
theorem d_R_join_40 : decode b_R_join 40 = .ok (.aload_n 0, 1) := by decide +kernel
theorem d_R_join_41 : decode b_R_join 41 = .ok (.iload_n 2, 1) := by decide +kernel
theorem d_R_join_42 : decode b_R_join 42 = .ok (.aload_n 0, 1) := by decide +kernel
theorem d_R_join_43 : decode b_R_join 43 = .ok (.getfield 20, 3) := by decide +kernel
theorem d_R_join_46 : decode b_R_join 46 = .ok (.iload 4, 2) := by decide +kernel
theorem d_R_join_48 : decode b_R_join 48 = .ok (.laload, 1) := by decide +kernel
theorem d_R_join_49 : decode b_R_join 49 = .ok (.aload_n 0, 1) := by decide +kernel
theorem d_R_join_50 : decode b_R_join 50 = .ok (.getfield 27, 3) := by decide +kernel
theorem d_R_join_53 : decode b_R_join 53 = .ok (.iload_n 3, 1) := by decide +kernel
theorem d_R_join_54 : decode b_R_join 54 = .ok (.laload, 1) := by decide +kernel
theorem d_R_join_55 : decode b_R_join 55 = .ok (.invokevirtual 72, 3) := by decide +kernel
theorem d_R_join_58 : decode b_R_join 58 = .ok (.goto 10, 3) := by decide +kernel
theorem d_R_join_61 : decode b_R_join 61 = .ok (.aload_n 0, 1) := by decide +kernel
theorem d_R_join_62 : decode b_R_join 62 = .ok (.getfield 20, 3) := by decide +kernel
theorem d_R_join_65 : decode b_R_join 65 = .ok (.iload 4, 2) := by decide +kernel
theorem d_R_join_67 : decode b_R_join 67 = .ok (.laload, 1) := by decide +kernel
theorem d_R_join_68 : decode b_R_join 68 = .ok (.lastore, 1) := by decide +kernel
theorem d_R_join_69 : decode b_R_join 69 = .ok (.aload_n 0, 1) := by decide +kernel
theorem d_R_join_70 : decode b_R_join 70 = .ok (.getfield 24, 3) := by decide +kernel
theorem d_R_join_73 : decode b_R_join 73 = .ok (.iload_n 3, 1) := by decide +kernel
theorem d_R_join_74 : decode b_R_join 74 = .ok (.iconst 1, 1) := by decide +kernel
theorem d_R_join_75 : decode b_R_join 75 = .ok (.bastore, 1) := by decide +kernel
theorem d_R_join_76 : decode b_R_join 76 = .ok (.iinc 3 1, 3) := by decide +kernel
theorem d_R_join_79 : decode b_R_join 79 = .ok (.goto (-77), 3) := by decide +kernel
theorem d_R_join_82 : decode b_R_join 82 = .ok (.return_, 1) := by decide +kernel
theorem d_R_multiply_0 : decode b_R_multiply 0 = .ok (.iload_n 1, 1) := by decide +kernel
theorem d_R_multiply_1 : decode b_R_multiply 1 = .ok (.invokestatic 38, 3) := by decide +kernel
theorem d_R_multiply_4 : decode b_R_multiply 4 = .ok (.ifCond .eq 54, 3) := by decide +kernel
theorem d_R_multiply_7 : decode b_R_multiply 7 = .ok (.iload_n 2, 1) := by decide +kernel
theorem d_R_multiply_8 : decode b_R_multiply 8 = .ok (.invokestatic 38, 3) := by decide +kernel
theorem d_R_multiply_11 : decode b_R_multiply 11 = .ok (.ifCond .eq 47, 3) := by decide +kernel
theorem d_R_multiply_14 : decode b_R_multiply 14 = .ok (.iload_n 3, 1) := by decide +kernel
theorem d_R_multiply_15 : decode b_R_multiply 15 = .ok (.invokestatic 38, 3) := by decide +kernel
theorem d_R_multiply_18 : decode b_R_multiply 18 = .ok (.ifCond .eq 40, 3) := by decide +kernel
theorem d_R_multiply_21 : decode b_R_multiply 21 = .ok (.iload 4, 2) := by decide +kernel
theorem d_R_multiply_23 : decode b_R_multiply 23 = .ok (.invokestatic 79, 3) := by decide +kernel
theorem d_R_multiply_26 : decode b_R_multiply 26 = .ok (.ifCond .eq 32, 3) := by decide +kernel
theorem d_R_multiply_29 : decode b_R_multiply 29 = .ok (.iload 5, 2) := by decide +kernel
theorem d_R_multiply_31 : decode b_R_multiply 31 = .ok (.iconst (-1), 1) := by decide +kernel
theorem d_R_multiply_32 : decode b_R_multiply 32 = .ok (.if_icmp .eq 11, 3) := by decide +kernel
theorem d_R_multiply_35 : decode b_R_multiply 35 = .ok (.iload 5, 2) := by decide +kernel
theorem d_R_multiply_37 : decode b_R_multiply 37 = .ok (.invokestatic 38, 3) := by decide +kernel
theorem d_R_multiply_40 : decode b_R_multiply 40 = .ok (.ifCond .eq 18, 3) := by decide +kernel
theorem d_R_multiply_43 : decode b_R_multiply 43 = .ok (.iload 6, 2) := by decide +kernel
theorem d_R_multiply_45 : decode b_R_multiply 45 = .ok (.ifCond .lt 13, 3) := by decide +kernel
theorem d_R_multiply_48 : decode b_R_multiply 48 = .ok (.iload 6, 2) := by decide +kernel
theorem d_R_multiply_50 : decode b_R_multiply 50 = .ok (.iconst 3, 1) := by decide +kernel
theorem d_R_multiply_51 : decode b_R_multiply 51 = .ok (.if_icmp .gt 7, 3) := by decide +kernel
theorem d_R_multiply_54 : decode b_R_multiply 54 = .ok (.iconst 1, 1) := by decide +kernel
theorem d_R_multiply_55 : decode b_R_multiply 55 = .ok (.goto 4, 3) := by decide +kernel
theorem d_R_multiply_58 : decode b_R_multiply 58 = .ok (.iconst 0, 1) := by decide +kernel
theorem d_R_multiply_59 : decode b_R_multiply 59 = .ok (.istore 7, 2) := by decide +kernel
theorem d_R_multiply_61 : decode b_R_multiply 61 = .ok (.aload_n 0, 1) := by decide +kernel
theorem d_R_multiply_62 : decode b_R_multiply 62 = .ok (.iload 7, 2) := by decide +kernel
theorem d_R_multiply_64 : decode b_R_multiply 64 = .ok (.ifCond .eq 7, 3) := by decide +kernel
theorem d_R_multiply_67 : decode b_R_multiply 67 = .ok (.iconst 0, 1) := by decide +kernel
theorem d_R_multiply_68 : decode b_R_multiply 68 = .ok (.goto 4, 3) := by decide +kernel
theorem d_R_multiply_71 : decode b_R_multiply 71 = .ok (.iconst 1, 1) := by decide +kernel
theorem d_R_multiply_72 : decode b_R_multiply 72 = .ok (.putfield 30, 3) := by decide +kernel
theorem d_R_multiply_75 : decode b_R_multiply 75 = .ok (.aload_n 0, 1) := by decide +kernel
theorem d_R_multiply_76 : decode b_R_multiply 76 = .ok (.getfield 30, 3) := by decide +kernel
theorem d_R_multiply_79 : decode b_R_multiply 79 = .ok (.ifCond .le 5, 3) := by decide +kernel
theorem d_R_multiply_82 : decode b_R_multiply 82 = .ok (.iconst 0, 1) := by decide +kernel
theorem d_R_multiply_83 : decode b_R_multiply 83 = .ok (.ireturn, 1) := by decide +kernel
theorem d_R_multiply_84 : decode b_R_multiply 84 = .ok (.aload_n 0, 1) := by decide +kernel
theorem d_R_multiply_85 : decode b_R_multiply 85 = .ok (.getfield 13, 3) := by decide +kernel
theorem d_R_multiply_88 : decode b_R_multiply 88 = .ok (.iload_n 2, 1) := by decide +kernel
theorem d_R_multiply_89 : decode b_R_multiply 89 = .ok (.iaload, 1) := by decide +kernel
theorem d_R_multiply_90 : decode b_R_multiply 90 = .ok (.aload_n 0, 1) := by decide +kernel
theorem d_R_multiply_91 : decode b_R_multiply 91 = .ok (.getfield 7, 3) := by decide +kernel
theorem d_R_multiply_94 : decode b_R_multiply 94 = .ok (.iload_n 3, 1) := by decide +kernel
theorem d_R_multiply_95 : decode b_R_multiply 95 = .ok (.iaload, 1) := by decide +kernel
theorem d_R_multiply_96 : decode b_R_multiply 96 = .ok (.if_icmp .ne 81, 3) := by decide +kernel
theorem d_R_multiply_99 : decode b_R_multiply 99 = .ok (.iload 5, 2) := by decide +kernel
theorem d_R_multiply_101 : decode b_R_multiply 101 = .ok (.iconst (-1), 1) := by decide +kernel
theorem d_R_multiply_102 : decode b_R_multiply 102 = .ok (.if_icmp .eq 35, 3) := by decide +kernel
theorem d_R_multiply_105 : decode b_R_multiply 105 = .ok (.aload_n 0, 1) := by decide +kernel
theorem d_R_multiply_106 : decode b_R_multiply 106 = .ok (.getfield 7, 3) := by decide +kernel
theorem d_R_multiply_109 : decode b_R_multiply 109 = .ok (.iload 5, 2) := by decide +kernel
theorem d_R_multiply_111 : decode b_R_multiply 111 = .ok (.iaload, 1) := by decide +kernel
theorem d_R_multiply_112 : decode b_R_multiply 112 = .ok (.aload_n 0, 1) := by decide +kernel
theorem d_R_multiply_113 : decode b_R_multiply 113 = .ok (.getfield 7, 3) := by decide +kernel
theorem d_R_multiply_116 : decode b_R_multiply 116 = .ok (.iload_n 2, 1) := by decide +kernel
theorem d_R_multiply_117 : decode b_R_multiply 117 = .ok (.iaload, 1) := by decide +kernel
theorem d_R_multiply_118 : decode b_R_multiply 118 = .ok (.if_icmp .ne 59, 3) := by decide +kernel
theorem d_R_multiply_121 : decode b_R_multiply 121 = .ok (.aload_n 0, 1) := by decide +kernel
theorem d_R_multiply_122 : decode b_R_multiply 122 = .ok (.getfield 13, 3) := by decide +kernel
theorem d_R_multiply_125 : decode b_R_multiply 125 = .ok (.iload 5, 2) := by decide +kernel
theorem d_R_multiply_127 : decode b_R_multiply 127 = .ok (.iaload, 1) := by decide +kernel
theorem d_R_multiply_128 : decode b_R_multiply 128 = .ok (.aload_n 0, 1) := by decide +kernel
theorem d_R_multiply_129 : decode b_R_multiply 129 = .ok (.getfield 13, 3) := by decide +kernel
theorem d_R_multiply_132 : decode b_R_multiply 132 = .ok (.iload_n 3, 1) := by decide +kernel
theorem d_R_multiply_133 : decode b_R_multiply 133 = .ok (.iaload, 1) := by decide +kernel
theorem d_R_multiply_134 : decode b_R_multiply 134 = .ok (.if_icmp .ne 43, 3) := by decide +kernel
theorem d_R_multiply_137 : decode b_R_multiply 137 = .ok (.iload 6, 2) := by decide +kernel
theorem d_R_multiply_139 : decode b_R_multiply 139 = .ok (.iconst 2, 1) := by decide +kernel
theorem d_R_multiply_140 : decode b_R_multiply 140 = .ok (.if_icmp .lt 33, 3) := by decide +kernel
theorem d_R_multiply_143 : decode b_R_multiply 143 = .ok (.aload_n 0, 1) := by decide +kernel
theorem d_R_multiply_144 : decode b_R_multiply 144 = .ok (.getfield 7, 3) := by decide +kernel
theorem d_R_multiply_147 : decode b_R_multiply 147 = .ok (.iload_n 1, 1) := by decide +kernel
theorem d_R_multiply_148 : decode b_R_multiply 148 = .ok (.iaload, 1) := by decide +kernel
theorem d_R_multiply_149 : decode b_R_multiply 149 = .ok (.aload_n 0, 1) := by decide +kernel
theorem d_R_multiply_150 : decode b_R_multiply 150 = .ok (.getfield 7, 3) := by decide +kernel
theorem d_R_multiply_153 : decode b_R_multiply 153 = .ok (.iload_n 2, 1) := by decide +kernel
theorem d_R_multiply_154 : decode b_R_multiply 154 = .ok (.iaload, 1) := by decide +kernel
theorem d_R_multiply_155 : decode b_R_multiply 155 = .ok (.if_icmp .ne 22, 3) := by decide +kernel
theorem d_R_multiply_158 : decode b_R_multiply 158 = .ok (.aload_n 0, 1) := by decide +kernel
theorem d_R_multiply_159 : decode b_R_multiply 159 = .ok (.getfield 13, 3) := by decide +kernel
theorem d_R_multiply_162 : decode b_R_multiply 162 = .ok (.iload_n 1, 1) := by decide +kernel
theorem d_R_multiply_163 : decode b_R_multiply 163 = .ok (.iaload, 1) := by decide +kernel
theorem d_R_multiply_164 : decode b_R_multiply 164 = .ok (.aload_n 0, 1) := by decide +kernel
theorem d_R_multiply_165 : decode b_R_multiply 165 = .ok (.getfield 13, 3) := by decide +kernel
theorem d_R_multiply_168 : decode b_R_multiply 168 = .ok (.iload_n 3, 1) := by decide +kernel
theorem d_R_multiply_169 : decode b_R_multiply 169 = .ok (.iaload, 1) := by decide +kernel
theorem d_R_multiply_170 : decode b_R_multiply 170 = .ok (.if_icmp .ne 7, 3) := by decide +kernel
theorem d_R_multiply_173 : decode b_R_multiply 173 = .ok (.iconst 1, 1) := by decide +kernel
theorem d_R_multiply_174 : decode b_R_multiply 174 = .ok (.goto 4, 3) := by decide +kernel
theorem d_R_multiply_177 : decode b_R_multiply 177 = .ok (.iconst 0, 1) := by decide +kernel
theorem d_R_multiply_178 : decode b_R_multiply 178 = .ok (.istore 8, 2) := by decide +kernel
theorem d_R_multiply_180 : decode b_R_multiply 180 = .ok (.aload_n 0, 1) := by decide +kernel
theorem d_R_multiply_181 : decode b_R_multiply 181 = .ok (.iload 8, 2) := by decide +kernel
theorem d_R_multiply_183 : decode b_R_multiply 183 = .ok (.ifCond .eq 7, 3) := by decide +kernel
theorem d_R_multiply_186 : decode b_R_multiply 186 = .ok (.iconst 0, 1) := by decide +kernel
theorem d_R_multiply_187 : decode b_R_multiply 187 = .ok (.goto 4, 3) := by decide +kernel
theorem d_R_multiply_190 : decode b_R_multiply 190 = .ok (.iconst 2, 1) := by decide +kernel
theorem d_R_multiply_191 : decode b_R_multiply 191 = .ok (.putfield 30, 3) := by decide +kernel
theorem d_R_multiply_194 : decode b_R_multiply 194 = .ok (.aload_n 0, 1) := by decide +kernel
theorem d_R_multiply_195 : decode b_R_multiply 195 = .ok (.getfield 30, 3) := by decide +kernel
theorem d_R_multiply_198 : decode b_R_multiply 198 = .ok (.ifCond .le 5, 3) := by decide +kernel
theorem d_R_multiply_201 : decode b_R_multiply 201 = .ok (.iconst 0, 1) := by decide +kernel
theorem d_R_multiply_202 : decode b_R_multiply 202 = .ok (.ireturn, 1) := by decide +kernel
theorem d_R_multiply_203 : decode b_R_multiply 203 = .ok (.aload_n 0, 1) := by decide +kernel
theorem d_R_multiply_204 : decode b_R_multiply 204 = .ok (.aload_n 0, 1) := by decide +kernel
theorem d_R_multiply_205 : decode b_R_multiply 205 = .ok (.getfield 7, 3) := by decide +kernel
theorem d_R_multiply_208 : decode b_R_multiply 208 = .ok (.iload_n 2, 1) := by decide +kernel
theorem d_R_multiply_209 : decode b_R_multiply 209 = .ok (.iaload, 1) := by decide +kernel
theorem d_R_multiply_210 : decode b_R_multiply 210 = .ok (.aload_n 0, 1) := by decide +kernel
theorem d_R_multiply_211 : decode b_R_multiply 211 = .ok (.getfield 13, 3) := by decide +kernel
theorem d_R_multiply_214 : decode b_R_multiply 214 = .ok (.iload_n 3, 1) := by decide +kernel
theorem d_R_multiply_215 : decode b_R_multiply 215 = .ok (.iaload, 1) := by decide +kernel
theorem d_R_multiply_216 : decode b_R_multiply 216 = .ok (.invokevirtual 82, 3) := by decide +kernel
theorem d_R_multiply_219 : decode b_R_multiply 219 = .ok (.iconst 0, 1) := by decide +kernel
theorem d_R_multiply_220 : decode b_R_multiply 220 = .ok (.istore 9, 2) := by decide +kernel
theorem d_R_multiply_222 : decode b_R_multiply 222 = .ok (.iload 9, 2) := by decide +kernel
theorem d_R_multiply_224 : decode b_R_multiply 224 = .ok (.aload_n 0, 1) := by decide +kernel
theorem d_R_multiply_225 : decode b_R_multiply 225 = .ok (.getfield 62, 3) := by decide +kernel
theorem d_R_multiply_228 : decode b_R_multiply 228 = .ok (.if_icmp .ge 79, 3) := by decide +kernel
theorem d_R_multiply_231 : decode b_R_multiply 231 = .ok (.iconst 0, 1) := by decide +kernel
theorem d_R_multiply_232 : decode b_R_multiply 232 = .ok (.istore 10, 2) := by decide +kernel
theorem d_R_multiply_234 : decode b_R_multiply 234 = .ok (.iload 10, 2) := by decide +kernel
theorem d_R_multiply_236 : decode b_R_multiply 236 = .ok (.aload_n 0, 1) := by decide +kernel
theorem d_R_multiply_237 : decode b_R_multiply 237 = .ok (.getfield 65, 3) := by decide +kernel
theorem d_R_multiply_240 : decode b_R_multiply 240 = .ok (.if_icmp .ge 61, 3) := by decide +kernel
theorem d_R_multiply_243 : decode b_R_multiply 243 = .ok (.iload 5, 2) := by decide +kernel
theorem d_R_multiply_245 : decode b_R_multiply 245 = .ok (.iconst (-1), 1) := by decide +kernel
theorem d_R_multiply_246 : decode b_R_multiply 246 = .ok (.if_icmp .eq 37, 3) := by decide +kernel
theorem d_R_multiply_249 : decode b_R_multiply 249 = .ok (.aload_n 0, 1) := by decide +kernel
theorem d_R_multiply_250 : decode b_R_multiply 250 = .ok (.getfield 16, 3) := by decide +kernel
theorem d_R_multiply_253 : decode b_R_multiply 253 = .ok (.bipush 64, 2) := by decide +kernel
theorem d_R_multiply_255 : decode b_R_multiply 255 = .ok (.iload 5, 2) := by decide +kernel
theorem d_R_multiply_257 : decode b_R_multiply 257 = .ok (.imul, 1) := by decide +kernel
theorem d_R_multiply_258 : decode b_R_multiply 258 = .ok (.bipush 8, 2) := by decide +kernel
theorem d_R_multiply_260 : decode b_R_multiply 260 = .ok (.iload 9, 2) := by decide +kernel
theorem d_R_multiply_262 : decode b_R_multiply 262 = .ok (.imul, 1) := by decide +kernel
theorem d_R_multiply_263 : decode b_R_multiply 263 = .ok (.iadd, 1) := by decide +kernel
theorem d_R_multiply_264 : decode b_R_multiply 264 = .ok (.iload 10, 2) := by decide +kernel
theorem d_R_multiply_266 : decode b_R_multiply 266 = .ok (.iadd, 1) := by decide +kernel
theorem d_R_multiply_267 : decode b_R_multiply 267 = .ok (.baload, 1) := by decide +kernel
theorem d_R_multiply_268 : decode b_R_multiply 268 = .ok (.iload 6, 2) := by decide +kernel
theorem d_R_multiply_270 : decode b_R_multiply 270 = .ok (.iconst 2, 1) := by decide +kernel
theorem d_R_multiply_271 : decode b_R_multiply 271 = .ok (.irem, 1) := by decide +kernel
theorem d_R_multiply_272 : decode b_R_multiply 272 = .ok (.ifCond .ne 7, 3) := by decide +kernel
theorem d_R_multiply_275 : decode b_R_multiply 275 = .ok (.iconst 1, 1) := by decide +kernel
theorem d_R_multiply_276 : decode b_R_multiply 276 = .ok (.goto 4, 3) := by decide +kernel
theorem d_R_multiply_279 : decode b_R_multiply 279 = .ok (.iconst 0, 1) := by decide +kernel
theorem d_R_multiply_280 : decode b_R_multiply 280 = .ok (.if_icmp .ne 15, 3) := by decide +kernel
theorem d_R_multiply_283 : decode b_R_multiply 283 = .ok (.aload_n 0, 1) := by decide +kernel
theorem d_R_multiply_284 : decode b_R_multiply 284 = .ok (.iload_n 2, 1) := by decide +kernel
theorem d_R_multiply_285 : decode b_R_multiply 285 = .ok (.iload_n 3, 1) := by decide +kernel
theorem d_R_multiply_286 : decode b_R_multiply 286 = .ok (.iload 4, 2) := by decide +kernel
theorem d_R_multiply_288 : decode b_R_multiply 288 = .ok (.iload 9, 2) := by decide +kernel
theorem d_R_multiply_290 : decode b_R_multiply 290 = .ok (.iload 10, 2) := by decide +kernel
theorem d_R_multiply_292 : decode b_R_multiply 292 = .ok (.invokevirtual 86, 3) := by decide +kernel
theorem d_R_multiply_295 : decode b_R_multiply 295 = .ok (.iinc 10 1, 3) := by decide +kernel
theorem d_R_multiply_298 : decode b_R_multiply 298 = .ok (.goto (-64), 3) := by decide +kernel
theorem d_R_multiply_301 : decode b_R_multiply 301 = .ok (.iinc 9 1, 3) := by decide +kernel
theorem d_R_multiply_304 : decode b_R_multiply 304 = .ok (.goto (-82), 3) := by decide +kernel
theorem d_R_multiply_307 : decode b_R_multiply 307 = .ok (.iload 6, 2) := by decide +kernel
theorem d_R_multiply_309 : decode b_R_multiply 309 = .ok (.iconst 1, 1) := by decide +kernel
theorem d_R_multiply_310 : decode b_R_multiply 310 = .ok (.if_icmp .le 10, 3) := by decide +kernel
theorem d_R_multiply_313 : decode b_R_multiply 313 = .ok (.aload_n 0, 1) := by decide +kernel
theorem d_R_multiply_314 : decode b_R_multiply 314 = .ok (.iload_n 1, 1) := by decide +kernel
theorem d_R_multiply_315 : decode b_R_multiply 315 = .ok (.iload 4, 2) := by decide +kernel
theorem d_R_multiply_317 : decode b_R_multiply 317 = .ok (.invokevirtual 90, 3) := by decide +kernel
theorem d_R_multiply_320 : decode b_R_multiply 320 = .ok (.aload_n 0, 1) := by decide +kernel
theorem d_R_multiply_321 : decode b_R_multiply 321 = .ok (.aload_n 0, 1) := by decide +kernel
theorem d_R_multiply_322 : decode b_R_multiply 322 = .ok (.getfield 54, 3) := by decide +kernel
theorem d_R_multiply_325 : decode b_R_multiply 325 = .ok (.ifCond .eq 7, 3) := by decide +kernel
theorem d_R_multiply_328 : decode b_R_multiply 328 = .ok (.iconst 3, 1) := by decide +kernel
theorem d_R_multiply_329 : decode b_R_multiply 329 = .ok (.goto 4, 3) := by decide +kernel
theorem d_R_multiply_332 : decode b_R_multiply 332 = .ok (.iconst 0, 1) := by decide +kernel
theorem d_R_multiply_333 : decode b_R_multiply 333 = .ok (.putfield 30, 3) := by decide +kernel
theorem d_R_multiply_336 : decode b_R_multiply 336 = .ok (.aload_n 0, 1) := by decide +kernel
theorem d_R_multiply_337 : decode b_R_multiply 337 = .ok (.getfield 54, 3) := by decide +kernel
theorem d_R_multiply_340 : decode b_R_multiply 340 = .ok (.ifCond .eq 7, 3) := by decide +kernel
theorem d_R_multiply_343 : decode b_R_multiply 343 = .ok (.iconst 0, 1) := by decide +kernel
theorem d_R_multiply_344 : decode b_R_multiply 344 = .ok (.goto 10, 3) := by decide +kernel
theorem d_R_multiply_347 : decode b_R_multiply 347 = .ok (.aload_n 0, 1) := by decide +kernel
theorem d_R_multiply_348 : decode b_R_multiply 348 = .ok (.iload_n 1, 1) := by decide +kernel
theorem d_R_multiply_349 : decode b_R_multiply 349 = .ok (.iload 4, 2) := by decide +kernel
theorem d_R_multiply_351 : decode b_R_multiply 351 = .ok (.invokevirtual 93, 3) := by decide +kernel
theorem d_R_multiply_354 : decode b_R_multiply 354 = .ok (.ireturn, 1) := by decide +kernel
theorem d_R_pair_0 : decode b_R_pair 0 = .ok (.iload_n 1, 1) := by decide +kernel
theorem d_R_pair_1 : decode b_R_pair 1 = .ok (.invokestatic 38, 3) := by decide +kernel
theorem d_R_pair_4 : decode b_R_pair 4 = .ok (.ifCond .eq 25, 3) := by decide +kernel
theorem d_R_pair_7 : decode b_R_pair 7 = .ok (.iload_n 2, 1) := by decide +kernel
theorem d_R_pair_8 : decode b_R_pair 8 = .ok (.invokestatic 38, 3) := by decide +kernel
theorem d_R_pair_11 : decode b_R_pair 11 = .ok (.ifCond .eq 18, 3) := by decide +kernel
theorem d_R_pair_14 : decode b_R_pair 14 = .ok (.iload_n 3, 1) := by decide +kernel
theorem d_R_pair_15 : decode b_R_pair 15 = .ok (.invokestatic 38, 3) := by decide +kernel
theorem d_R_pair_18 : decode b_R_pair 18 = .ok (.ifCond .eq 11, 3) := by decide +kernel
theorem d_R_pair_21 : decode b_R_pair 21 = .ok (.iload 4, 2) := by decide +kernel
theorem d_R_pair_23 : decode b_R_pair 23 = .ok (.invokestatic 79, 3) := by decide +kernel
theorem d_R_pair_26 : decode b_R_pair 26 = .ok (.ifCond .ne 7, 3) := by decide +kernel
theorem d_R_pair_29 : decode b_R_pair 29 = .ok (.iconst 1, 1) := by decide +kernel
theorem d_R_pair_30 : decode b_R_pair 30 = .ok (.goto 38, 3) := by decide +kernel
theorem d_R_pair_33 : decode b_R_pair 33 = .ok (.aload_n 0, 1) := by decide +kernel
theorem d_R_pair_34 : decode b_R_pair 34 = .ok (.getfield 7, 3) := by decide +kernel
theorem d_R_pair_37 : decode b_R_pair 37 = .ok (.iload_n 2, 1) := by decide +kernel
theorem d_R_pair_38 : decode b_R_pair 38 = .ok (.iaload, 1) := by decide +kernel
theorem d_R_pair_39 : decode b_R_pair 39 = .ok (.aload_n 0, 1) := by decide +kernel
theorem d_R_pair_40 : decode b_R_pair 40 = .ok (.getfield 7, 3) := by decide +kernel
theorem d_R_pair_43 : decode b_R_pair 43 = .ok (.iload_n 3, 1) := by decide +kernel
theorem d_R_pair_44 : decode b_R_pair 44 = .ok (.iaload, 1) := by decide +kernel
theorem d_R_pair_45 : decode b_R_pair 45 = .ok (.if_icmp .ne 18, 3) := by decide +kernel
theorem d_R_pair_48 : decode b_R_pair 48 = .ok (.aload_n 0, 1) := by decide +kernel
theorem d_R_pair_49 : decode b_R_pair 49 = .ok (.getfield 13, 3) := by decide +kernel
theorem d_R_pair_52 : decode b_R_pair 52 = .ok (.iload_n 2, 1) := by decide +kernel
theorem d_R_pair_53 : decode b_R_pair 53 = .ok (.iaload, 1) := by decide +kernel
theorem d_R_pair_54 : decode b_R_pair 54 = .ok (.aload_n 0, 1) := by decide +kernel
theorem d_R_pair_55 : decode b_R_pair 55 = .ok (.getfield 13, 3) := by decide +kernel
theorem d_R_pair_58 : decode b_R_pair 58 = .ok (.iload_n 3, 1) := by decide +kernel
theorem d_R_pair_59 : decode b_R_pair 59 = .ok (.iaload, 1) := by decide +kernel
theorem d_R_pair_60 : decode b_R_pair 60 = .ok (.if_icmp .eq 7, 3) := by decide +kernel
theorem d_R_pair_63 : decode b_R_pair 63 = .ok (.iconst 2, 1) := by decide +kernel
theorem d_R_pair_64 : decode b_R_pair 64 = .ok (.goto 4, 3) := by decide +kernel
theorem d_R_pair_67 : decode b_R_pair 67 = .ok (.iconst 0, 1) := by decide +kernel
theorem d_R_pair_68 : decode b_R_pair 68 = .ok (.ireturn, 1) := by decide +kernel
theorem d_R_add_0 : decode b_R_add 0 = .ok (.aload_n 0, 1) := by decide +kernel
theorem d_R_add_1 : decode b_R_add 1 = .ok (.aload_n 0, 1) := by decide +kernel
theorem d_R_add_2 : decode b_R_add 2 = .ok (.iload_n 1, 1) := by decide +kernel
theorem d_R_add_3 : decode b_R_add 3 = .ok (.iload_n 2, 1) := by decide +kernel
theorem d_R_add_4 : decode b_R_add 4 = .ok (.iload_n 3, 1) := by decide +kernel
theorem d_R_add_5 : decode b_R_add 5 = .ok (.iload 4, 2) := by decide +kernel
theorem d_R_add_7 : decode b_R_add 7 = .ok (.invokevirtual 97, 3) := by decide +kernel
theorem d_R_add_10 : decode b_R_add 10 = .ok (.putfield 30, 3) := by decide +kernel
theorem d_R_add_13 : decode b_R_add 13 = .ok (.aload_n 0, 1) := by decide +kernel
theorem d_R_add_14 : decode b_R_add 14 = .ok (.getfield 30, 3) := by decide +kernel
theorem d_R_add_17 : decode b_R_add 17 = .ok (.ifCond .le 5, 3) := by decide +kernel
theorem d_R_add_20 : decode b_R_add 20 = .ok (.iconst 0, 1) := by decide +kernel
theorem d_R_add_21 : decode b_R_add 21 = .ok (.ireturn, 1) := by decide +kernel
theorem d_R_add_22 : decode b_R_add 22 = .ok (.aload_n 0, 1) := by decide +kernel
theorem d_R_add_23 : decode b_R_add 23 = .ok (.aload_n 0, 1) := by decide +kernel
theorem d_R_add_24 : decode b_R_add 24 = .ok (.getfield 7, 3) := by decide +kernel
theorem d_R_add_27 : decode b_R_add 27 = .ok (.iload_n 2, 1) := by decide +kernel
theorem d_R_add_28 : decode b_R_add 28 = .ok (.iaload, 1) := by decide +kernel
theorem d_R_add_29 : decode b_R_add 29 = .ok (.aload_n 0, 1) := by decide +kernel
theorem d_R_add_30 : decode b_R_add 30 = .ok (.getfield 13, 3) := by decide +kernel
theorem d_R_add_33 : decode b_R_add 33 = .ok (.iload_n 2, 1) := by decide +kernel
theorem d_R_add_34 : decode b_R_add 34 = .ok (.iaload, 1) := by decide +kernel
theorem d_R_add_35 : decode b_R_add 35 = .ok (.invokevirtual 82, 3) := by decide +kernel
theorem d_R_add_38 : decode b_R_add 38 = .ok (.iconst 0, 1) := by decide +kernel
theorem d_R_add_39 : decode b_R_add 39 = .ok (.istore 5, 2) := by decide +kernel
theorem d_R_add_41 : decode b_R_add 41 = .ok (.iload 5, 2) := by decide +kernel
theorem d_R_add_43 : decode b_R_add 43 = .ok (.bipush 64, 2) := by decide +kernel
theorem d_R_add_45 : decode b_R_add 45 = .ok (.if_icmp .ge 136, 3) := by decide +kernel
theorem d_R_add_48 : decode b_R_add 48 = .ok (.aload_n 0, 1) := by decide +kernel
theorem d_R_add_49 : decode b_R_add 49 = .ok (.getfield 16, 3) := by decide +kernel
theorem d_R_add_52 : decode b_R_add 52 = .ok (.bipush 64, 2) := by decide +kernel
theorem d_R_add_54 : decode b_R_add 54 = .ok (.iload_n 2, 1) := by decide +kernel
theorem d_R_add_55 : decode b_R_add 55 = .ok (.imul, 1) := by decide +kernel
theorem d_R_add_56 : decode b_R_add 56 = .ok (.iload 5, 2) := by decide +kernel
theorem d_R_add_58 : decode b_R_add 58 = .ok (.iadd, 1) := by decide +kernel
theorem d_R_add_59 : decode b_R_add 59 = .ok (.baload, 1) := by decide +kernel
theorem d_R_add_60 : decode b_R_add 60 = .ok (.istore 6, 2) := by decide +kernel
theorem d_R_add_62 : decode b_R_add 62 = .ok (.aload_n 0, 1) := by decide +kernel
theorem d_R_add_63 : decode b_R_add 63 = .ok (.getfield 16, 3) := by decide +kernel
theorem d_R_add_66 : decode b_R_add 66 = .ok (.bipush 64, 2) := by decide +kernel
theorem d_R_add_68 : decode b_R_add 68 = .ok (.iload_n 3, 1) := by decide +kernel
theorem d_R_add_69 : decode b_R_add 69 = .ok (.imul, 1) := by decide +kernel
theorem d_R_add_70 : decode b_R_add 70 = .ok (.iload 5, 2) := by decide +kernel
theorem d_R_add_72 : decode b_R_add 72 = .ok (.iadd, 1) := by decide +kernel
theorem d_R_add_73 : decode b_R_add 73 = .ok (.baload, 1) := by decide +kernel
theorem d_R_add_74 : decode b_R_add 74 = .ok (.istore 7, 2) := by decide +kernel
theorem d_R_add_76 : decode b_R_add 76 = .ok (.iload 6, 2) := by decide +kernel
theorem d_R_add_78 : decode b_R_add 78 = .ok (.ifCond .ne 8, 3) := by decide +kernel
theorem d_R_add_81 : decode b_R_add 81 = .ok (.iload 7, 2) := by decide +kernel
theorem d_R_add_83 : decode b_R_add 83 = .ok (.ifCond .eq 92, 3) := by decide +kernel
theorem d_R_add_86 : decode b_R_add 86 = .ok (.aload_n 0, 1) := by decide +kernel
theorem d_R_add_87 : decode b_R_add 87 = .ok (.iload 5, 2) := by decide +kernel
theorem d_R_add_89 : decode b_R_add 89 = .ok (.bipush 8, 2) := by decide +kernel
theorem d_R_add_91 : decode b_R_add 91 = .ok (.idiv, 1) := by decide +kernel
theorem d_R_add_92 : decode b_R_add 92 = .ok (.iload 5, 2) := by decide +kernel
theorem d_R_add_94 : decode b_R_add 94 = .ok (.bipush 8, 2) := by decide +kernel
theorem d_R_add_96 : decode b_R_add 96 = .ok (.irem, 1) := by decide +kernel
theorem d_R_add_97 : decode b_R_add 97 = .ok (.iload 6, 2) := by decide +kernel
theorem d_R_add_99 : decode b_R_add 99 = .ok (.ifCond .eq 41, 3) := by decide +kernel
theorem d_R_add_102 : decode b_R_add 102 = .ok (.iload 7, 2) := by decide +kernel
theorem d_R_add_104 : decode b_R_add 104 = .ok (.ifCond .eq 36, 3) := by decide +kernel
theorem d_R_add_107 : decode b_R_add 107 = .ok (.aload_n 0, 1) := by decide +kernel
theorem d_R_add_108 : decode b_R_add 108 = .ok (.iload 4, 2) := by decide +kernel
theorem d_R_add_110 : decode b_R_add 110 = .ok (.aload_n 0, 1) := by decide +kernel
theorem d_R_add_111 : decode b_R_add 111 = .ok (.getfield 20, 3) := by decide +kernel
theorem d_R_add_114 : decode b_R_add 114 = .ok (.bipush 64, 2) := by decide +kernel
theorem d_R_add_116 : decode b_R_add 116 = .ok (.iload_n 2, 1) := by decide +kernel
theorem d_R_add_117 : decode b_R_add 117 = .ok (.imul, 1) := by decide +kernel
theorem d_R_add_118 : decode b_R_add 118 = .ok (.iload 5, 2) := by decide +kernel
theorem d_R_add_120 : decode b_R_add 120 = .ok (.iadd, 1) := by decide +kernel
theorem d_R_add_121 : decode b_R_add 121 = .ok (.laload, 1) := by decide +kernel
theorem d_R_add_122 : decode b_R_add 122 = .ok (.aload_n 0, 1) := by decide +kernel
theorem d_R_add_123 : decode b_R_add 123 = .ok (.getfield 20, 3) := by decide +kernel
theorem d_R_add_126 : decode b_R_add 126 = .ok (.bipush 64, 2) := by decide +kernel
theorem d_R_add_128 : decode b_R_add 128 = .ok (.iload_n 3, 1) := by decide +kernel
theorem d_R_add_129 : decode b_R_add 129 = .ok (.imul, 1) := by decide +kernel
theorem d_R_add_130 : decode b_R_add 130 = .ok (.iload 5, 2) := by decide +kernel
theorem d_R_add_132 : decode b_R_add 132 = .ok (.iadd, 1) := by decide +kernel
theorem d_R_add_133 : decode b_R_add 133 = .ok (.laload, 1) := by decide +kernel
theorem d_R_add_134 : decode b_R_add 134 = .ok (.invokevirtual 72, 3) := by decide +kernel
theorem d_R_add_137 : decode b_R_add 137 = .ok (.goto 35, 3) := by decide +kernel
theorem d_R_add_140 : decode b_R_add 140 = .ok (.iload 6, 2) := by decide +kernel
theorem d_R_add_142 : decode b_R_add 142 = .ok (.ifCond .eq 18, 3) := by decide +kernel
theorem d_R_add_145 : decode b_R_add 145 = .ok (.aload_n 0, 1) := by decide +kernel
theorem d_R_add_146 : decode b_R_add 146 = .ok (.getfield 20, 3) := by decide +kernel
theorem d_R_add_149 : decode b_R_add 149 = .ok (.bipush 64, 2) := by decide +kernel
theorem d_R_add_151 : decode b_R_add 151 = .ok (.iload_n 2, 1) := by decide +kernel
theorem d_R_add_152 : decode b_R_add 152 = .ok (.imul, 1) := by decide +kernel
theorem d_R_add_153 : decode b_R_add 153 = .ok (.iload 5, 2) := by decide +kernel
theorem d_R_add_155 : decode b_R_add 155 = .ok (.iadd, 1) := by decide +kernel
theorem d_R_add_156 : decode b_R_add 156 = .ok (.laload, 1) := by decide +kernel
theorem d_R_add_157 : decode b_R_add 157 = .ok (.goto 15, 3) := by decide +kernel
theorem d_R_add_160 : decode b_R_add 160 = .ok (.aload_n 0, 1) := by decide +kernel
theorem d_R_add_161 : decode b_R_add 161 = .ok (.getfield 20, 3) := by decide +kernel
theorem d_R_add_164 : decode b_R_add 164 = .ok (.bipush 64, 2) := by decide +kernel
theorem d_R_add_166 : decode b_R_add 166 = .ok (.iload_n 3, 1) := by decide +kernel
theorem d_R_add_167 : decode b_R_add 167 = .ok (.imul, 1) := by decide +kernel
theorem d_R_add_168 : decode b_R_add 168 = .ok (.iload 5, 2) := by decide +kernel
theorem d_R_add_170 : decode b_R_add 170 = .ok (.iadd, 1) := by decide +kernel
theorem d_R_add_171 : decode b_R_add 171 = .ok (.laload, 1) := by decide +kernel
theorem d_R_add_172 : decode b_R_add 172 = .ok (.invokevirtual 75, 3) := by decide +kernel
theorem d_R_add_175 : decode b_R_add 175 = .ok (.iinc 5 1, 3) := by decide +kernel
theorem d_R_add_178 : decode b_R_add 178 = .ok (.goto (-137), 3) := by decide +kernel
theorem d_R_add_181 : decode b_R_add 181 = .ok (.aload_n 0, 1) := by decide +kernel
theorem d_R_add_182 : decode b_R_add 182 = .ok (.aload_n 0, 1) := by decide +kernel
theorem d_R_add_183 : decode b_R_add 183 = .ok (.getfield 54, 3) := by decide +kernel
theorem d_R_add_186 : decode b_R_add 186 = .ok (.ifCond .eq 7, 3) := by decide +kernel
theorem d_R_add_189 : decode b_R_add 189 = .ok (.iconst 3, 1) := by decide +kernel
theorem d_R_add_190 : decode b_R_add 190 = .ok (.goto 4, 3) := by decide +kernel
theorem d_R_add_193 : decode b_R_add 193 = .ok (.iconst 0, 1) := by decide +kernel
theorem d_R_add_194 : decode b_R_add 194 = .ok (.putfield 30, 3) := by decide +kernel
theorem d_R_add_197 : decode b_R_add 197 = .ok (.aload_n 0, 1) := by decide +kernel
theorem d_R_add_198 : decode b_R_add 198 = .ok (.getfield 54, 3) := by decide +kernel
theorem d_R_add_201 : decode b_R_add 201 = .ok (.ifCond .eq 7, 3) := by decide +kernel
theorem d_R_add_204 : decode b_R_add 204 = .ok (.iconst 0, 1) := by decide +kernel
theorem d_R_add_205 : decode b_R_add 205 = .ok (.goto 10, 3) := by decide +kernel
theorem d_R_add_208 : decode b_R_add 208 = .ok (.aload_n 0, 1) := by decide +kernel
theorem d_R_add_209 : decode b_R_add 209 = .ok (.iload_n 1, 1) := by decide +kernel
theorem d_R_add_210 : decode b_R_add 210 = .ok (.iload 4, 2) := by decide +kernel
theorem d_R_add_212 : decode b_R_add 212 = .ok (.invokevirtual 93, 3) := by decide +kernel
theorem d_R_add_215 : decode b_R_add 215 = .ok (.ireturn, 1) := by decide +kernel
theorem d_R_each_0 : decode b_R_each 0 = .ok (.aload_n 0, 1) := by decide +kernel
theorem d_R_each_1 : decode b_R_each 1 = .ok (.aload_n 0, 1) := by decide +kernel
theorem d_R_each_2 : decode b_R_each 2 = .ok (.iload_n 1, 1) := by decide +kernel
theorem d_R_each_3 : decode b_R_each 3 = .ok (.iload_n 2, 1) := by decide +kernel
theorem d_R_each_4 : decode b_R_each 4 = .ok (.iload_n 3, 1) := by decide +kernel
theorem d_R_each_5 : decode b_R_each 5 = .ok (.iload 4, 2) := by decide +kernel
theorem d_R_each_7 : decode b_R_each 7 = .ok (.invokevirtual 97, 3) := by decide +kernel
theorem d_R_each_10 : decode b_R_each 10 = .ok (.putfield 30, 3) := by decide +kernel
theorem d_R_each_13 : decode b_R_each 13 = .ok (.aload_n 0, 1) := by decide +kernel
theorem d_R_each_14 : decode b_R_each 14 = .ok (.getfield 30, 3) := by decide +kernel
theorem d_R_each_17 : decode b_R_each 17 = .ok (.ifCond .le 5, 3) := by decide +kernel
theorem d_R_each_20 : decode b_R_each 20 = .ok (.iconst 0, 1) := by decide +kernel
theorem d_R_each_21 : decode b_R_each 21 = .ok (.ireturn, 1) := by decide +kernel
theorem d_R_each_22 : decode b_R_each 22 = .ok (.aload_n 0, 1) := by decide +kernel
theorem d_R_each_23 : decode b_R_each 23 = .ok (.aload_n 0, 1) := by decide +kernel
theorem d_R_each_24 : decode b_R_each 24 = .ok (.getfield 7, 3) := by decide +kernel
theorem d_R_each_27 : decode b_R_each 27 = .ok (.iload_n 2, 1) := by decide +kernel
theorem d_R_each_28 : decode b_R_each 28 = .ok (.iaload, 1) := by decide +kernel
theorem d_R_each_29 : decode b_R_each 29 = .ok (.aload_n 0, 1) := by decide +kernel
theorem d_R_each_30 : decode b_R_each 30 = .ok (.getfield 13, 3) := by decide +kernel
theorem d_R_each_33 : decode b_R_each 33 = .ok (.iload_n 2, 1) := by decide +kernel
theorem d_R_each_34 : decode b_R_each 34 = .ok (.iaload, 1) := by decide +kernel
theorem d_R_each_35 : decode b_R_each 35 = .ok (.invokevirtual 82, 3) := by decide +kernel
theorem d_R_each_38 : decode b_R_each 38 = .ok (.iconst 0, 1) := by decide +kernel
theorem d_R_each_39 : decode b_R_each 39 = .ok (.istore 5, 2) := by decide +kernel
theorem d_R_each_41 : decode b_R_each 41 = .ok (.iload 5, 2) := by decide +kernel
theorem d_R_each_43 : decode b_R_each 43 = .ok (.bipush 64, 2) := by decide +kernel
theorem d_R_each_45 : decode b_R_each 45 = .ok (.if_icmp .ge 83, 3) := by decide +kernel
theorem d_R_each_48 : decode b_R_each 48 = .ok (.aload_n 0, 1) := by decide +kernel
theorem d_R_each_49 : decode b_R_each 49 = .ok (.getfield 16, 3) := by decide +kernel
theorem d_R_each_52 : decode b_R_each 52 = .ok (.bipush 64, 2) := by decide +kernel
theorem d_R_each_54 : decode b_R_each 54 = .ok (.iload_n 2, 1) := by decide +kernel
theorem d_R_each_55 : decode b_R_each 55 = .ok (.imul, 1) := by decide +kernel
theorem d_R_each_56 : decode b_R_each 56 = .ok (.iload 5, 2) := by decide +kernel
theorem d_R_each_58 : decode b_R_each 58 = .ok (.iadd, 1) := by decide +kernel
theorem d_R_each_59 : decode b_R_each 59 = .ok (.baload, 1) := by decide +kernel
theorem d_R_each_60 : decode b_R_each 60 = .ok (.ifCond .eq 62, 3) := by decide +kernel
theorem d_R_each_63 : decode b_R_each 63 = .ok (.aload_n 0, 1) := by decide +kernel
theorem d_R_each_64 : decode b_R_each 64 = .ok (.getfield 16, 3) := by decide +kernel
theorem d_R_each_67 : decode b_R_each 67 = .ok (.bipush 64, 2) := by decide +kernel
theorem d_R_each_69 : decode b_R_each 69 = .ok (.iload_n 3, 1) := by decide +kernel
theorem d_R_each_70 : decode b_R_each 70 = .ok (.imul, 1) := by decide +kernel
theorem d_R_each_71 : decode b_R_each 71 = .ok (.iload 5, 2) := by decide +kernel
theorem d_R_each_73 : decode b_R_each 73 = .ok (.iadd, 1) := by decide +kernel
theorem d_R_each_74 : decode b_R_each 74 = .ok (.baload, 1) := by decide +kernel
theorem d_R_each_75 : decode b_R_each 75 = .ok (.ifCond .eq 47, 3) := by decide +kernel
theorem d_R_each_78 : decode b_R_each 78 = .ok (.aload_n 0, 1) := by decide +kernel
theorem d_R_each_79 : decode b_R_each 79 = .ok (.iload 5, 2) := by decide +kernel
theorem d_R_each_81 : decode b_R_each 81 = .ok (.bipush 8, 2) := by decide +kernel
theorem d_R_each_83 : decode b_R_each 83 = .ok (.idiv, 1) := by decide +kernel
theorem d_R_each_84 : decode b_R_each 84 = .ok (.iload 5, 2) := by decide +kernel
theorem d_R_each_86 : decode b_R_each 86 = .ok (.bipush 8, 2) := by decide +kernel
theorem d_R_each_88 : decode b_R_each 88 = .ok (.irem, 1) := by decide +kernel
theorem d_R_each_89 : decode b_R_each 89 = .ok (.aload_n 0, 1) := by decide +kernel
theorem d_R_each_90 : decode b_R_each 90 = .ok (.iload 4, 2) := by decide +kernel
theorem d_R_each_92 : decode b_R_each 92 = .ok (.aload_n 0, 1) := by decide +kernel
theorem d_R_each_93 : decode b_R_each 93 = .ok (.getfield 20, 3) := by decide +kernel
theorem d_R_each_96 : decode b_R_each 96 = .ok (.bipush 64, 2) := by decide +kernel
theorem d_R_each_98 : decode b_R_each 98 = .ok (.iload_n 2, 1) := by decide +kernel
theorem d_R_each_99 : decode b_R_each 99 = .ok (.imul, 1) := by decide +kernel
theorem d_R_each_100 : decode b_R_each 100 = .ok (.iload 5, 2) := by decide +kernel
theorem d_R_each_102 : decode b_R_each 102 = .ok (.iadd, 1) := by decide +kernel
theorem d_R_each_103 : decode b_R_each 103 = .ok (.laload, 1) := by decide +kernel
theorem d_R_each_104 : decode b_R_each 104 = .ok (.aload_n 0, 1) := by decide +kernel
theorem d_R_each_105 : decode b_R_each 105 = .ok (.getfield 20, 3) := by decide +kernel
theorem d_R_each_108 : decode b_R_each 108 = .ok (.bipush 64, 2) := by decide +kernel
theorem d_R_each_110 : decode b_R_each 110 = .ok (.iload_n 3, 1) := by decide +kernel
theorem d_R_each_111 : decode b_R_each 111 = .ok (.imul, 1) := by decide +kernel
theorem d_R_each_112 : decode b_R_each 112 = .ok (.iload 5, 2) := by decide +kernel
theorem d_R_each_114 : decode b_R_each 114 = .ok (.iadd, 1) := by decide +kernel
theorem d_R_each_115 : decode b_R_each 115 = .ok (.laload, 1) := by decide +kernel
theorem d_R_each_116 : decode b_R_each 116 = .ok (.invokevirtual 68, 3) := by decide +kernel
theorem d_R_each_119 : decode b_R_each 119 = .ok (.invokevirtual 75, 3) := by decide +kernel
theorem d_R_each_122 : decode b_R_each 122 = .ok (.iinc 5 1, 3) := by decide +kernel
theorem d_R_each_125 : decode b_R_each 125 = .ok (.goto (-84), 3) := by decide +kernel
theorem d_R_each_128 : decode b_R_each 128 = .ok (.aload_n 0, 1) := by decide +kernel
theorem d_R_each_129 : decode b_R_each 129 = .ok (.aload_n 0, 1) := by decide +kernel
theorem d_R_each_130 : decode b_R_each 130 = .ok (.getfield 54, 3) := by decide +kernel
theorem d_R_each_133 : decode b_R_each 133 = .ok (.ifCond .eq 7, 3) := by decide +kernel
theorem d_R_each_136 : decode b_R_each 136 = .ok (.iconst 3, 1) := by decide +kernel
theorem d_R_each_137 : decode b_R_each 137 = .ok (.goto 4, 3) := by decide +kernel
theorem d_R_each_140 : decode b_R_each 140 = .ok (.iconst 0, 1) := by decide +kernel
theorem d_R_each_141 : decode b_R_each 141 = .ok (.putfield 30, 3) := by decide +kernel
theorem d_R_each_144 : decode b_R_each 144 = .ok (.aload_n 0, 1) := by decide +kernel
theorem d_R_each_145 : decode b_R_each 145 = .ok (.getfield 54, 3) := by decide +kernel
theorem d_R_each_148 : decode b_R_each 148 = .ok (.ifCond .eq 7, 3) := by decide +kernel
theorem d_R_each_151 : decode b_R_each 151 = .ok (.iconst 0, 1) := by decide +kernel
theorem d_R_each_152 : decode b_R_each 152 = .ok (.goto 10, 3) := by decide +kernel
theorem d_R_each_155 : decode b_R_each 155 = .ok (.aload_n 0, 1) := by decide +kernel
theorem d_R_each_156 : decode b_R_each 156 = .ok (.iload_n 1, 1) := by decide +kernel
theorem d_R_each_157 : decode b_R_each 157 = .ok (.iload 4, 2) := by decide +kernel
theorem d_R_each_159 : decode b_R_each 159 = .ok (.invokevirtual 93, 3) := by decide +kernel
theorem d_R_each_162 : decode b_R_each 162 = .ok (.ireturn, 1) := by decide +kernel
theorem d_R_transpose_0 : decode b_R_transpose 0 = .ok (.aload_n 0, 1) := by decide +kernel
theorem d_R_transpose_1 : decode b_R_transpose 1 = .ok (.iload_n 1, 1) := by decide +kernel
theorem d_R_transpose_2 : decode b_R_transpose 2 = .ok (.invokestatic 38, 3) := by decide +kernel
theorem d_R_transpose_5 : decode b_R_transpose 5 = .ok (.ifCond .eq 14, 3) := by decide +kernel
theorem d_R_transpose_8 : decode b_R_transpose 8 = .ok (.iload_n 2, 1) := by decide +kernel
theorem d_R_transpose_9 : decode b_R_transpose 9 = .ok (.invokestatic 38, 3) := by decide +kernel
theorem d_R_transpose_12 : decode b_R_transpose 12 = .ok (.ifCond .eq 7, 3) := by decide +kernel
theorem d_R_transpose_15 : decode b_R_transpose 15 = .ok (.iconst 0, 1) := by decide +kernel
theorem d_R_transpose_16 : decode b_R_transpose 16 = .ok (.goto 4, 3) := by decide +kernel
theorem d_R_transpose_19 : decode b_R_transpose 19 = .ok (.iconst 1, 1) := by decide +kernel
theorem d_R_transpose_20 : decode b_R_transpose 20 = .ok (.putfield 30, 3) := by decide +kernel
theorem d_R_transpose_23 : decode b_R_transpose 23 = .ok (.aload_n 0, 1) := by decide +kernel
theorem d_R_transpose_24 : decode b_R_transpose 24 = .ok (.getfield 30, 3) := by decide +kernel
theorem d_R_transpose_27 : decode b_R_transpose 27 = .ok (.ifCond .le 5, 3) := by decide +kernel
theorem d_R_transpose_30 : decode b_R_transpose 30 = .ok (.iconst 0, 1) := by decide +kernel
theorem d_R_transpose_31 : decode b_R_transpose 31 = .ok (.ireturn, 1) := by decide +kernel
theorem d_R_transpose_32 : decode b_R_transpose 32 = .ok (.aload_n 0, 1) := by decide +kernel
theorem d_R_transpose_33 : decode b_R_transpose 33 = .ok (.aload_n 0, 1) := by decide +kernel
theorem d_R_transpose_34 : decode b_R_transpose 34 = .ok (.getfield 13, 3) := by decide +kernel
theorem d_R_transpose_37 : decode b_R_transpose 37 = .ok (.iload_n 2, 1) := by decide +kernel
theorem d_R_transpose_38 : decode b_R_transpose 38 = .ok (.iaload, 1) := by decide +kernel
theorem d_R_transpose_39 : decode b_R_transpose 39 = .ok (.aload_n 0, 1) := by decide +kernel
theorem d_R_transpose_40 : decode b_R_transpose 40 = .ok (.getfield 7, 3) := by decide +kernel
theorem d_R_transpose_43 : decode b_R_transpose 43 = .ok (.iload_n 2, 1) := by decide +kernel
theorem d_R_transpose_44 : decode b_R_transpose 44 = .ok (.iaload, 1) := by decide +kernel
theorem d_R_transpose_45 : decode b_R_transpose 45 = .ok (.invokevirtual 82, 3) := by decide +kernel
theorem d_R_transpose_48 : decode b_R_transpose 48 = .ok (.iconst 0, 1) := by decide +kernel
theorem d_R_transpose_49 : decode b_R_transpose 49 = .ok (.istore_n 3, 1) := by decide +kernel
theorem d_R_transpose_50 : decode b_R_transpose 50 = .ok (.iload_n 3, 1) := by decide +kernel
theorem d_R_transpose_51 : decode b_R_transpose 51 = .ok (.bipush 64, 2) := by decide +kernel
theorem d_R_transpose_53 : decode b_R_transpose 53 = .ok (.if_icmp .ge 46, 3) := by decide +kernel
theorem d_R_transpose_56 : decode b_R_transpose 56 = .ok (.aload_n 0, 1) := by decide +kernel
theorem d_R_transpose_57 : decode b_R_transpose 57 = .ok (.getfield 16, 3) := by decide +kernel
theorem d_R_transpose_60 : decode b_R_transpose 60 = .ok (.bipush 64, 2) := by decide +kernel
theorem d_R_transpose_62 : decode b_R_transpose 62 = .ok (.iload_n 2, 1) := by decide +kernel
theorem d_R_transpose_63 : decode b_R_transpose 63 = .ok (.imul, 1) := by decide +kernel
theorem d_R_transpose_64 : decode b_R_transpose 64 = .ok (.iload_n 3, 1) := by decide +kernel
theorem d_R_transpose_65 : decode b_R_transpose 65 = .ok (.iadd, 1) := by decide +kernel
theorem d_R_transpose_66 : decode b_R_transpose 66 = .ok (.baload, 1) := by decide +kernel
theorem d_R_transpose_67 : decode b_R_transpose 67 = .ok (.ifCond .eq 26, 3) := by decide +kernel
theorem d_R_transpose_70 : decode b_R_transpose 70 = .ok (.aload_n 0, 1) := by decide +kernel
theorem d_R_transpose_71 : decode b_R_transpose 71 = .ok (.iload_n 3, 1) := by decide +kernel
theorem d_R_transpose_72 : decode b_R_transpose 72 = .ok (.bipush 8, 2) := by decide +kernel
theorem d_R_transpose_74 : decode b_R_transpose 74 = .ok (.irem, 1) := by decide +kernel
theorem d_R_transpose_75 : decode b_R_transpose 75 = .ok (.iload_n 3, 1) := by decide +kernel
theorem d_R_transpose_76 : decode b_R_transpose 76 = .ok (.bipush 8, 2) := by decide +kernel
theorem d_R_transpose_78 : decode b_R_transpose 78 = .ok (.idiv, 1) := by decide +kernel
theorem d_R_transpose_79 : decode b_R_transpose 79 = .ok (.aload_n 0, 1) := by decide +kernel
theorem d_R_transpose_80 : decode b_R_transpose 80 = .ok (.getfield 20, 3) := by decide +kernel
theorem d_R_transpose_83 : decode b_R_transpose 83 = .ok (.bipush 64, 2) := by decide +kernel
theorem d_R_transpose_85 : decode b_R_transpose 85 = .ok (.iload_n 2, 1) := by decide +kernel
theorem d_R_transpose_86 : decode b_R_transpose 86 = .ok (.imul, 1) := by decide +kernel
theorem d_R_transpose_87 : decode b_R_transpose 87 = .ok (.iload_n 3, 1) := by decide +kernel
theorem d_R_transpose_88 : decode b_R_transpose 88 = .ok (.iadd, 1) := by decide +kernel
theorem d_R_transpose_89 : decode b_R_transpose 89 = .ok (.laload, 1) := by decide +kernel
theorem d_R_transpose_90 : decode b_R_transpose 90 = .ok (.invokevirtual 75, 3) := by decide +kernel
theorem d_R_transpose_93 : decode b_R_transpose 93 = .ok (.iinc 3 1, 3) := by decide +kernel
theorem d_R_transpose_96 : decode b_R_transpose 96 = .ok (.goto (-46), 3) := by decide +kernel
theorem d_R_transpose_99 : decode b_R_transpose 99 = .ok (.aload_n 0, 1) := by decide +kernel
theorem d_R_transpose_100 : decode b_R_transpose 100 = .ok (.iload_n 1, 1) := by decide +kernel
theorem d_R_transpose_101 : decode b_R_transpose 101 = .ok (.iconst (-1), 1) := by decide +kernel
theorem d_R_transpose_102 : decode b_R_transpose 102 = .ok (.invokevirtual 93, 3) := by decide +kernel
theorem d_R_transpose_105 : decode b_R_transpose 105 = .ok (.ireturn, 1) := by decide +kernel
theorem d_R_chosen_0 : decode b_R_chosen 0 = .ok (.iload_n 0, 1) := by decide +kernel
theorem d_R_chosen_1 : decode b_R_chosen 1 = .ok (.tableswitch 79 0 3 #[31, 44, 57, 68], 31) := by decide +kernel
theorem d_R_chosen_32 : decode b_R_chosen 32 = .ok (.lload_n 3, 1) := by decide +kernel
theorem d_R_chosen_33 : decode b_R_chosen 33 = .ok (.lload 5, 2) := by decide +kernel
theorem d_R_chosen_35 : decode b_R_chosen 35 = .ok (.lcmp, 1) := by decide +kernel
theorem d_R_chosen_36 : decode b_R_chosen 36 = .ok (.ifCond .ge 7, 3) := by decide +kernel
theorem d_R_chosen_39 : decode b_R_chosen 39 = .ok (.iconst 1, 1) := by decide +kernel
theorem d_R_chosen_40 : decode b_R_chosen 40 = .ok (.goto 4, 3) := by decide +kernel
theorem d_R_chosen_43 : decode b_R_chosen 43 = .ok (.iconst 0, 1) := by decide +kernel
theorem d_R_chosen_44 : decode b_R_chosen 44 = .ok (.ireturn, 1) := by decide +kernel
theorem d_R_chosen_45 : decode b_R_chosen 45 = .ok (.lload_n 3, 1) := by decide +kernel
theorem d_R_chosen_46 : decode b_R_chosen 46 = .ok (.lload 5, 2) := by decide +kernel
theorem d_R_chosen_48 : decode b_R_chosen 48 = .ok (.lcmp, 1) := by decide +kernel
theorem d_R_chosen_49 : decode b_R_chosen 49 = .ok (.ifCond .le 7, 3) := by decide +kernel
theorem d_R_chosen_52 : decode b_R_chosen 52 = .ok (.iconst 1, 1) := by decide +kernel
theorem d_R_chosen_53 : decode b_R_chosen 53 = .ok (.goto 4, 3) := by decide +kernel
theorem d_R_chosen_56 : decode b_R_chosen 56 = .ok (.iconst 0, 1) := by decide +kernel
theorem d_R_chosen_57 : decode b_R_chosen 57 = .ok (.ireturn, 1) := by decide +kernel
theorem d_R_chosen_58 : decode b_R_chosen 58 = .ok (.iload_n 1, 1) := by decide +kernel
theorem d_R_chosen_59 : decode b_R_chosen 59 = .ok (.iload_n 2, 1) := by decide +kernel
theorem d_R_chosen_60 : decode b_R_chosen 60 = .ok (.if_icmp .ge 7, 3) := by decide +kernel
theorem d_R_chosen_63 : decode b_R_chosen 63 = .ok (.iconst 1, 1) := by decide +kernel
theorem d_R_chosen_64 : decode b_R_chosen 64 = .ok (.goto 4, 3) := by decide +kernel
theorem d_R_chosen_67 : decode b_R_chosen 67 = .ok (.iconst 0, 1) := by decide +kernel
theorem d_R_chosen_68 : decode b_R_chosen 68 = .ok (.ireturn, 1) := by decide +kernel
theorem d_R_chosen_69 : decode b_R_chosen 69 = .ok (.iload_n 1, 1) := by decide +kernel
theorem d_R_chosen_70 : decode b_R_chosen 70 = .ok (.iload_n 2, 1) := by decide +kernel
theorem d_R_chosen_71 : decode b_R_chosen 71 = .ok (.if_icmp .le 7, 3) := by decide +kernel
theorem d_R_chosen_74 : decode b_R_chosen 74 = .ok (.iconst 1, 1) := by decide +kernel
theorem d_R_chosen_75 : decode b_R_chosen 75 = .ok (.goto 4, 3) := by decide +kernel
theorem d_R_chosen_78 : decode b_R_chosen 78 = .ok (.iconst 0, 1) := by decide +kernel
theorem d_R_chosen_79 : decode b_R_chosen 79 = .ok (.ireturn, 1) := by decide +kernel
theorem d_R_chosen_80 : decode b_R_chosen 80 = .ok (.iload_n 1, 1) := by decide +kernel
theorem d_R_chosen_81 : decode b_R_chosen 81 = .ok (.iload_n 2, 1) := by decide +kernel
theorem d_R_chosen_82 : decode b_R_chosen 82 = .ok (.if_icmp .ne 7, 3) := by decide +kernel
theorem d_R_chosen_85 : decode b_R_chosen 85 = .ok (.iconst 1, 1) := by decide +kernel
theorem d_R_chosen_86 : decode b_R_chosen 86 = .ok (.goto 4, 3) := by decide +kernel
theorem d_R_chosen_89 : decode b_R_chosen 89 = .ok (.iconst 0, 1) := by decide +kernel
theorem d_R_chosen_90 : decode b_R_chosen 90 = .ok (.ireturn, 1) := by decide +kernel
theorem d_R_select_0 : decode b_R_select 0 = .ok (.aload_n 0, 1) := by decide +kernel
theorem d_R_select_1 : decode b_R_select 1 = .ok (.iload_n 1, 1) := by decide +kernel
theorem d_R_select_2 : decode b_R_select 2 = .ok (.invokestatic 38, 3) := by decide +kernel
theorem d_R_select_5 : decode b_R_select 5 = .ok (.ifCond .eq 23, 3) := by decide +kernel
theorem d_R_select_8 : decode b_R_select 8 = .ok (.iload_n 2, 1) := by decide +kernel
theorem d_R_select_9 : decode b_R_select 9 = .ok (.invokestatic 38, 3) := by decide +kernel
theorem d_R_select_12 : decode b_R_select 12 = .ok (.ifCond .eq 16, 3) := by decide +kernel
theorem d_R_select_15 : decode b_R_select 15 = .ok (.iload_n 3, 1) := by decide +kernel
theorem d_R_select_16 : decode b_R_select 16 = .ok (.ifCond .lt 12, 3) := by decide +kernel
theorem d_R_select_19 : decode b_R_select 19 = .ok (.iload_n 3, 1) := by decide +kernel
theorem d_R_select_20 : decode b_R_select 20 = .ok (.iconst 4, 1) := by decide +kernel
theorem d_R_select_21 : decode b_R_select 21 = .ok (.if_icmp .gt 7, 3) := by decide +kernel
theorem d_R_select_24 : decode b_R_select 24 = .ok (.iconst 0, 1) := by decide +kernel
theorem d_R_select_25 : decode b_R_select 25 = .ok (.goto 4, 3) := by decide +kernel
theorem d_R_select_28 : decode b_R_select 28 = .ok (.iconst 1, 1) := by decide +kernel
theorem d_R_select_29 : decode b_R_select 29 = .ok (.putfield 30, 3) := by decide +kernel
theorem d_R_select_32 : decode b_R_select 32 = .ok (.aload_n 0, 1) := by decide +kernel
theorem d_R_select_33 : decode b_R_select 33 = .ok (.getfield 30, 3) := by decide +kernel
theorem d_R_select_36 : decode b_R_select 36 = .ok (.ifCond .le 5, 3) := by decide +kernel
theorem d_R_select_39 : decode b_R_select 39 = .ok (.iconst 0, 1) := by decide +kernel
theorem d_R_select_40 : decode b_R_select 40 = .ok (.ireturn, 1) := by decide +kernel
theorem d_R_select_41 : decode b_R_select 41 = .ok (.aload_n 0, 1) := by decide +kernel
theorem d_R_select_42 : decode b_R_select 42 = .ok (.aload_n 0, 1) := by decide +kernel
theorem d_R_select_43 : decode b_R_select 43 = .ok (.getfield 7, 3) := by decide +kernel
theorem d_R_select_46 : decode b_R_select 46 = .ok (.iload_n 2, 1) := by decide +kernel
theorem d_R_select_47 : decode b_R_select 47 = .ok (.iaload, 1) := by decide +kernel
theorem d_R_select_48 : decode b_R_select 48 = .ok (.aload_n 0, 1) := by decide +kernel
theorem d_R_select_49 : decode b_R_select 49 = .ok (.getfield 13, 3) := by decide +kernel
theorem d_R_select_52 : decode b_R_select 52 = .ok (.iload_n 2, 1) := by decide +kernel
theorem d_R_select_53 : decode b_R_select 53 = .ok (.iaload, 1) := by decide +kernel
theorem d_R_select_54 : decode b_R_select 54 = .ok (.invokevirtual 82, 3) := by decide +kernel
theorem d_R_select_57 : decode b_R_select 57 = .ok (.iconst 0, 1) := by decide +kernel
theorem d_R_select_58 : decode b_R_select 58 = .ok (.istore 6, 2) := by decide +kernel
theorem d_R_select_60 : decode b_R_select 60 = .ok (.iload 6, 2) := by decide +kernel
theorem d_R_select_62 : decode b_R_select 62 = .ok (.bipush 64, 2) := by decide +kernel
theorem d_R_select_64 : decode b_R_select 64 = .ok (.if_icmp .ge 81, 3) := by decide +kernel
theorem d_R_select_67 : decode b_R_select 67 = .ok (.aload_n 0, 1) := by decide +kernel
theorem d_R_select_68 : decode b_R_select 68 = .ok (.getfield 16, 3) := by decide +kernel
theorem d_R_select_71 : decode b_R_select 71 = .ok (.bipush 64, 2) := by decide +kernel
theorem d_R_select_73 : decode b_R_select 73 = .ok (.iload_n 2, 1) := by decide +kernel
theorem d_R_select_74 : decode b_R_select 74 = .ok (.imul, 1) := by decide +kernel
theorem d_R_select_75 : decode b_R_select 75 = .ok (.iload 6, 2) := by decide +kernel
theorem d_R_select_77 : decode b_R_select 77 = .ok (.iadd, 1) := by decide +kernel
theorem d_R_select_78 : decode b_R_select 78 = .ok (.baload, 1) := by decide +kernel
theorem d_R_select_79 : decode b_R_select 79 = .ok (.ifCond .eq 60, 3) := by decide +kernel
theorem d_R_select_82 : decode b_R_select 82 = .ok (.iload_n 3, 1) := by decide +kernel
theorem d_R_select_83 : decode b_R_select 83 = .ok (.iload 6, 2) := by decide +kernel
theorem d_R_select_85 : decode b_R_select 85 = .ok (.bipush 8, 2) := by decide +kernel
theorem d_R_select_87 : decode b_R_select 87 = .ok (.idiv, 1) := by decide +kernel
theorem d_R_select_88 : decode b_R_select 88 = .ok (.iload 6, 2) := by decide +kernel
theorem d_R_select_90 : decode b_R_select 90 = .ok (.bipush 8, 2) := by decide +kernel
theorem d_R_select_92 : decode b_R_select 92 = .ok (.irem, 1) := by decide +kernel
theorem d_R_select_93 : decode b_R_select 93 = .ok (.aload_n 0, 1) := by decide +kernel
theorem d_R_select_94 : decode b_R_select 94 = .ok (.getfield 20, 3) := by decide +kernel
theorem d_R_select_97 : decode b_R_select 97 = .ok (.bipush 64, 2) := by decide +kernel
theorem d_R_select_99 : decode b_R_select 99 = .ok (.iload_n 2, 1) := by decide +kernel
theorem d_R_select_100 : decode b_R_select 100 = .ok (.imul, 1) := by decide +kernel
theorem d_R_select_101 : decode b_R_select 101 = .ok (.iload 6, 2) := by decide +kernel
theorem d_R_select_103 : decode b_R_select 103 = .ok (.iadd, 1) := by decide +kernel
theorem d_R_select_104 : decode b_R_select 104 = .ok (.laload, 1) := by decide +kernel
theorem d_R_select_105 : decode b_R_select 105 = .ok (.lload 4, 2) := by decide +kernel
theorem d_R_select_107 : decode b_R_select 107 = .ok (.invokestatic 101, 3) := by decide +kernel
theorem d_R_select_110 : decode b_R_select 110 = .ok (.ifCond .eq 29, 3) := by decide +kernel
theorem d_R_select_113 : decode b_R_select 113 = .ok (.aload_n 0, 1) := by decide +kernel
theorem d_R_select_114 : decode b_R_select 114 = .ok (.iload 6, 2) := by decide +kernel
theorem d_R_select_116 : decode b_R_select 116 = .ok (.bipush 8, 2) := by decide +kernel
theorem d_R_select_118 : decode b_R_select 118 = .ok (.idiv, 1) := by decide +kernel
theorem d_R_select_119 : decode b_R_select 119 = .ok (.iload 6, 2) := by decide +kernel
theorem d_R_select_121 : decode b_R_select 121 = .ok (.bipush 8, 2) := by decide +kernel
theorem d_R_select_123 : decode b_R_select 123 = .ok (.irem, 1) := by decide +kernel
theorem d_R_select_124 : decode b_R_select 124 = .ok (.aload_n 0, 1) := by decide +kernel
theorem d_R_select_125 : decode b_R_select 125 = .ok (.getfield 20, 3) := by decide +kernel
theorem d_R_select_128 : decode b_R_select 128 = .ok (.bipush 64, 2) := by decide +kernel
theorem d_R_select_130 : decode b_R_select 130 = .ok (.iload_n 2, 1) := by decide +kernel
theorem d_R_select_131 : decode b_R_select 131 = .ok (.imul, 1) := by decide +kernel
theorem d_R_select_132 : decode b_R_select 132 = .ok (.iload 6, 2) := by decide +kernel
theorem d_R_select_134 : decode b_R_select 134 = .ok (.iadd, 1) := by decide +kernel
theorem d_R_select_135 : decode b_R_select 135 = .ok (.laload, 1) := by decide +kernel
theorem d_R_select_136 : decode b_R_select 136 = .ok (.invokevirtual 75, 3) := by decide +kernel
theorem d_R_select_139 : decode b_R_select 139 = .ok (.iinc 6 1, 3) := by decide +kernel
theorem d_R_select_142 : decode b_R_select 142 = .ok (.goto (-82), 3) := by decide +kernel
theorem d_R_select_145 : decode b_R_select 145 = .ok (.aload_n 0, 1) := by decide +kernel
theorem d_R_select_146 : decode b_R_select 146 = .ok (.iload_n 1, 1) := by decide +kernel
theorem d_R_select_147 : decode b_R_select 147 = .ok (.iconst (-1), 1) := by decide +kernel
theorem d_R_select_148 : decode b_R_select 148 = .ok (.invokevirtual 93, 3) := by decide +kernel
theorem d_R_select_151 : decode b_R_select 151 = .ok (.ireturn, 1) := by decide +kernel
theorem d_R_reduce_0 : decode b_R_reduce 0 = .ok (.aload_n 0, 1) := by decide +kernel
theorem d_R_reduce_1 : decode b_R_reduce 1 = .ok (.iload_n 1, 1) := by decide +kernel
theorem d_R_reduce_2 : decode b_R_reduce 2 = .ok (.invokestatic 38, 3) := by decide +kernel
theorem d_R_reduce_5 : decode b_R_reduce 5 = .ok (.ifCond .eq 10, 3) := by decide +kernel
theorem d_R_reduce_8 : decode b_R_reduce 8 = .ok (.iload_n 2, 1) := by decide +kernel
theorem d_R_reduce_9 : decode b_R_reduce 9 = .ok (.invokestatic 79, 3) := by decide +kernel
theorem d_R_reduce_12 : decode b_R_reduce 12 = .ok (.ifCond .ne 7, 3) := by decide +kernel
theorem d_R_reduce_15 : decode b_R_reduce 15 = .ok (.iconst 1, 1) := by decide +kernel
theorem d_R_reduce_16 : decode b_R_reduce 16 = .ok (.goto 16, 3) := by decide +kernel
theorem d_R_reduce_19 : decode b_R_reduce 19 = .ok (.aload_n 0, 1) := by decide +kernel
theorem d_R_reduce_20 : decode b_R_reduce 20 = .ok (.iload_n 1, 1) := by decide +kernel
theorem d_R_reduce_21 : decode b_R_reduce 21 = .ok (.invokevirtual 50, 3) := by decide +kernel
theorem d_R_reduce_24 : decode b_R_reduce 24 = .ok (.ifCond .ne 7, 3) := by decide +kernel
theorem d_R_reduce_27 : decode b_R_reduce 27 = .ok (.iconst 2, 1) := by decide +kernel
theorem d_R_reduce_28 : decode b_R_reduce 28 = .ok (.goto 4, 3) := by decide +kernel
theorem d_R_reduce_31 : decode b_R_reduce 31 = .ok (.iconst 0, 1) := by decide +kernel
theorem d_R_reduce_32 : decode b_R_reduce 32 = .ok (.putfield 30, 3) := by decide +kernel
theorem d_R_reduce_35 : decode b_R_reduce 35 = .ok (.aload_n 0, 1) := by decide +kernel
theorem d_R_reduce_36 : decode b_R_reduce 36 = .ok (.getfield 30, 3) := by decide +kernel
theorem d_R_reduce_39 : decode b_R_reduce 39 = .ok (.ifCond .le 5, 3) := by decide +kernel
theorem d_R_reduce_42 : decode b_R_reduce 42 = .ok (.lconst 0, 1) := by decide +kernel
theorem d_R_reduce_43 : decode b_R_reduce 43 = .ok (.lreturn, 1) := by decide +kernel
theorem d_R_reduce_44 : decode b_R_reduce 44 = .ok (.aload_n 0, 1) := by decide +kernel
theorem d_R_reduce_45 : decode b_R_reduce 45 = .ok (.iconst 0, 1) := by decide +kernel
theorem d_R_reduce_46 : decode b_R_reduce 46 = .ok (.putfield 54, 3) := by decide +kernel
theorem d_R_reduce_49 : decode b_R_reduce 49 = .ok (.iconst 0, 1) := by decide +kernel
theorem d_R_reduce_50 : decode b_R_reduce 50 = .ok (.istore_n 3, 1) := by decide +kernel
theorem d_R_reduce_51 : decode b_R_reduce 51 = .ok (.lconst 0, 1) := by decide +kernel
theorem d_R_reduce_52 : decode b_R_reduce 52 = .ok (.lstore 4, 2) := by decide +kernel
theorem d_R_reduce_54 : decode b_R_reduce 54 = .ok (.bipush 64, 2) := by decide +kernel
theorem d_R_reduce_56 : decode b_R_reduce 56 = .ok (.iload_n 1, 1) := by decide +kernel
theorem d_R_reduce_57 : decode b_R_reduce 57 = .ok (.imul, 1) := by decide +kernel
theorem d_R_reduce_58 : decode b_R_reduce 58 = .ok (.istore 6, 2) := by decide +kernel
theorem d_R_reduce_60 : decode b_R_reduce 60 = .ok (.iload 6, 2) := by decide +kernel
theorem d_R_reduce_62 : decode b_R_reduce 62 = .ok (.bipush 64, 2) := by decide +kernel
theorem d_R_reduce_64 : decode b_R_reduce 64 = .ok (.iload_n 1, 1) := by decide +kernel
theorem d_R_reduce_65 : decode b_R_reduce 65 = .ok (.imul, 1) := by decide +kernel
theorem d_R_reduce_66 : decode b_R_reduce 66 = .ok (.bipush 64, 2) := by decide +kernel
theorem d_R_reduce_68 : decode b_R_reduce 68 = .ok (.iadd, 1) := by decide +kernel
theorem d_R_reduce_69 : decode b_R_reduce 69 = .ok (.if_icmp .ge 58, 3) := by decide +kernel
theorem d_R_reduce_72 : decode b_R_reduce 72 = .ok (.aload_n 0, 1) := by decide +kernel
theorem d_R_reduce_73 : decode b_R_reduce 73 = .ok (.getfield 54, 3) := by decide +kernel
theorem d_R_reduce_76 : decode b_R_reduce 76 = .ok (.ifCond .ne 51, 3) := by decide +kernel
theorem d_R_reduce_79 : decode b_R_reduce 79 = .ok (.aload_n 0, 1) := by decide +kernel
theorem d_R_reduce_80 : decode b_R_reduce 80 = .ok (.getfield 16, 3) := by decide +kernel
theorem d_R_reduce_83 : decode b_R_reduce 83 = .ok (.iload 6, 2) := by decide +kernel
theorem d_R_reduce_85 : decode b_R_reduce 85 = .ok (.baload, 1) := by decide +kernel
theorem d_R_reduce_86 : decode b_R_reduce 86 = .ok (.ifCond .eq 35, 3) := by decide +kernel
theorem d_R_reduce_89 : decode b_R_reduce 89 = .ok (.iload_n 3, 1) := by decide +kernel
theorem d_R_reduce_90 : decode b_R_reduce 90 = .ok (.ifCond .eq 20, 3) := by decide +kernel
theorem d_R_reduce_93 : decode b_R_reduce 93 = .ok (.aload_n 0, 1) := by decide +kernel
theorem d_R_reduce_94 : decode b_R_reduce 94 = .ok (.iload_n 2, 1) := by decide +kernel
theorem d_R_reduce_95 : decode b_R_reduce 95 = .ok (.lload 4, 2) := by decide +kernel
theorem d_R_reduce_97 : decode b_R_reduce 97 = .ok (.aload_n 0, 1) := by decide +kernel
theorem d_R_reduce_98 : decode b_R_reduce 98 = .ok (.getfield 20, 3) := by decide +kernel
theorem d_R_reduce_101 : decode b_R_reduce 101 = .ok (.iload 6, 2) := by decide +kernel
theorem d_R_reduce_103 : decode b_R_reduce 103 = .ok (.laload, 1) := by decide +kernel
theorem d_R_reduce_104 : decode b_R_reduce 104 = .ok (.invokevirtual 72, 3) := by decide +kernel
theorem d_R_reduce_107 : decode b_R_reduce 107 = .ok (.goto 10, 3) := by decide +kernel
theorem d_R_reduce_110 : decode b_R_reduce 110 = .ok (.aload_n 0, 1) := by decide +kernel
theorem d_R_reduce_111 : decode b_R_reduce 111 = .ok (.getfield 20, 3) := by decide +kernel
theorem d_R_reduce_114 : decode b_R_reduce 114 = .ok (.iload 6, 2) := by decide +kernel
theorem d_R_reduce_116 : decode b_R_reduce 116 = .ok (.laload, 1) := by decide +kernel
theorem d_R_reduce_117 : decode b_R_reduce 117 = .ok (.lstore 4, 2) := by decide +kernel
theorem d_R_reduce_119 : decode b_R_reduce 119 = .ok (.iconst 1, 1) := by decide +kernel
theorem d_R_reduce_120 : decode b_R_reduce 120 = .ok (.istore_n 3, 1) := by decide +kernel
theorem d_R_reduce_121 : decode b_R_reduce 121 = .ok (.iinc 6 1, 3) := by decide +kernel
theorem d_R_reduce_124 : decode b_R_reduce 124 = .ok (.goto (-64), 3) := by decide +kernel
theorem d_R_reduce_127 : decode b_R_reduce 127 = .ok (.aload_n 0, 1) := by decide +kernel
theorem d_R_reduce_128 : decode b_R_reduce 128 = .ok (.aload_n 0, 1) := by decide +kernel
theorem d_R_reduce_129 : decode b_R_reduce 129 = .ok (.getfield 54, 3) := by decide +kernel
theorem d_R_reduce_132 : decode b_R_reduce 132 = .ok (.ifCond .eq 7, 3) := by decide +kernel
theorem d_R_reduce_135 : decode b_R_reduce 135 = .ok (.iconst 3, 1) := by decide +kernel
theorem d_R_reduce_136 : decode b_R_reduce 136 = .ok (.goto 4, 3) := by decide +kernel
theorem d_R_reduce_139 : decode b_R_reduce 139 = .ok (.iconst 0, 1) := by decide +kernel
theorem d_R_reduce_140 : decode b_R_reduce 140 = .ok (.putfield 30, 3) := by decide +kernel
theorem d_R_reduce_143 : decode b_R_reduce 143 = .ok (.aload_n 0, 1) := by decide +kernel
theorem d_R_reduce_144 : decode b_R_reduce 144 = .ok (.getfield 54, 3) := by decide +kernel
theorem d_R_reduce_147 : decode b_R_reduce 147 = .ok (.ifCond .eq 7, 3) := by decide +kernel
theorem d_R_reduce_150 : decode b_R_reduce 150 = .ok (.lconst 0, 1) := by decide +kernel
theorem d_R_reduce_151 : decode b_R_reduce 151 = .ok (.goto 5, 3) := by decide +kernel
theorem d_R_reduce_154 : decode b_R_reduce 154 = .ok (.lload 4, 2) := by decide +kernel
theorem d_R_reduce_156 : decode b_R_reduce 156 = .ok (.lreturn, 1) := by decide +kernel
theorem d_R_isSquare_0 : decode b_R_isSquare 0 = .ok (.aload_n 0, 1) := by decide +kernel
theorem d_R_isSquare_1 : decode b_R_isSquare 1 = .ok (.getfield 7, 3) := by decide +kernel
theorem d_R_isSquare_4 : decode b_R_isSquare 4 = .ok (.iload_n 1, 1) := by decide +kernel
theorem d_R_isSquare_5 : decode b_R_isSquare 5 = .ok (.iaload, 1) := by decide +kernel
theorem d_R_isSquare_6 : decode b_R_isSquare 6 = .ok (.aload_n 0, 1) := by decide +kernel
theorem d_R_isSquare_7 : decode b_R_isSquare 7 = .ok (.getfield 13, 3) := by decide +kernel
theorem d_R_isSquare_10 : decode b_R_isSquare 10 = .ok (.iload_n 1, 1) := by decide +kernel
theorem d_R_isSquare_11 : decode b_R_isSquare 11 = .ok (.iaload, 1) := by decide +kernel
theorem d_R_isSquare_12 : decode b_R_isSquare 12 = .ok (.if_icmp .ne 7, 3) := by decide +kernel
theorem d_R_isSquare_15 : decode b_R_isSquare 15 = .ok (.iconst 1, 1) := by decide +kernel
theorem d_R_isSquare_16 : decode b_R_isSquare 16 = .ok (.goto 4, 3) := by decide +kernel
theorem d_R_isSquare_19 : decode b_R_isSquare 19 = .ok (.iconst 0, 1) := by decide +kernel
theorem d_R_isSquare_20 : decode b_R_isSquare 20 = .ok (.ireturn, 1) := by decide +kernel
theorem d_R_levels_0 : decode b_R_levels 0 = .ok (.aload_n 0, 1) := by decide +kernel
theorem d_R_levels_1 : decode b_R_levels 1 = .ok (.iload_n 1, 1) := by decide +kernel
theorem d_R_levels_2 : decode b_R_levels 2 = .ok (.invokestatic 38, 3) := by decide +kernel
theorem d_R_levels_5 : decode b_R_levels 5 = .ok (.ifCond .eq 10, 3) := by decide +kernel
theorem d_R_levels_8 : decode b_R_levels 8 = .ok (.iload_n 2, 1) := by decide +kernel
theorem d_R_levels_9 : decode b_R_levels 9 = .ok (.invokestatic 38, 3) := by decide +kernel
theorem d_R_levels_12 : decode b_R_levels 12 = .ok (.ifCond .ne 7, 3) := by decide +kernel
theorem d_R_levels_15 : decode b_R_levels 15 = .ok (.iconst 1, 1) := by decide +kernel
theorem d_R_levels_16 : decode b_R_levels 16 = .ok (.goto 34, 3) := by decide +kernel
theorem d_R_levels_19 : decode b_R_levels 19 = .ok (.aload_n 0, 1) := by decide +kernel
theorem d_R_levels_20 : decode b_R_levels 20 = .ok (.iload_n 2, 1) := by decide +kernel
theorem d_R_levels_21 : decode b_R_levels 21 = .ok (.invokevirtual 105, 3) := by decide +kernel
theorem d_R_levels_24 : decode b_R_levels 24 = .ok (.ifCond .ne 7, 3) := by decide +kernel
theorem d_R_levels_27 : decode b_R_levels 27 = .ok (.iconst 2, 1) := by decide +kernel
theorem d_R_levels_28 : decode b_R_levels 28 = .ok (.goto 22, 3) := by decide +kernel
theorem d_R_levels_31 : decode b_R_levels 31 = .ok (.iload_n 3, 1) := by decide +kernel
theorem d_R_levels_32 : decode b_R_levels 32 = .ok (.ifCond .lt 13, 3) := by decide +kernel
theorem d_R_levels_35 : decode b_R_levels 35 = .ok (.iload_n 3, 1) := by decide +kernel
theorem d_R_levels_36 : decode b_R_levels 36 = .ok (.aload_n 0, 1) := by decide +kernel
theorem d_R_levels_37 : decode b_R_levels 37 = .ok (.getfield 7, 3) := by decide +kernel
theorem d_R_levels_40 : decode b_R_levels 40 = .ok (.iload_n 2, 1) := by decide +kernel
theorem d_R_levels_41 : decode b_R_levels 41 = .ok (.iaload, 1) := by decide +kernel
theorem d_R_levels_42 : decode b_R_levels 42 = .ok (.if_icmp .lt 7, 3) := by decide +kernel
theorem d_R_levels_45 : decode b_R_levels 45 = .ok (.iconst 3, 1) := by decide +kernel
theorem d_R_levels_46 : decode b_R_levels 46 = .ok (.goto 4, 3) := by decide +kernel
theorem d_R_levels_49 : decode b_R_levels 49 = .ok (.iconst 0, 1) := by decide +kernel
theorem d_R_levels_50 : decode b_R_levels 50 = .ok (.putfield 30, 3) := by decide +kernel
theorem d_R_levels_53 : decode b_R_levels 53 = .ok (.aload_n 0, 1) := by decide +kernel
theorem d_R_levels_54 : decode b_R_levels 54 = .ok (.getfield 30, 3) := by decide +kernel
theorem d_R_levels_57 : decode b_R_levels 57 = .ok (.ifCond .le 5, 3) := by decide +kernel
theorem d_R_levels_60 : decode b_R_levels 60 = .ok (.iconst 0, 1) := by decide +kernel
theorem d_R_levels_61 : decode b_R_levels 61 = .ok (.ireturn, 1) := by decide +kernel
theorem d_R_levels_62 : decode b_R_levels 62 = .ok (.aload_n 0, 1) := by decide +kernel
theorem d_R_levels_63 : decode b_R_levels 63 = .ok (.iconst 1, 1) := by decide +kernel
theorem d_R_levels_64 : decode b_R_levels 64 = .ok (.aload_n 0, 1) := by decide +kernel
theorem d_R_levels_65 : decode b_R_levels 65 = .ok (.getfield 13, 3) := by decide +kernel
theorem d_R_levels_68 : decode b_R_levels 68 = .ok (.iload_n 2, 1) := by decide +kernel
theorem d_R_levels_69 : decode b_R_levels 69 = .ok (.iaload, 1) := by decide +kernel
theorem d_R_levels_70 : decode b_R_levels 70 = .ok (.invokevirtual 82, 3) := by decide +kernel
theorem d_R_levels_73 : decode b_R_levels 73 = .ok (.aload_n 0, 1) := by decide +kernel
theorem d_R_levels_74 : decode b_R_levels 74 = .ok (.iconst 0, 1) := by decide +kernel
theorem d_R_levels_75 : decode b_R_levels 75 = .ok (.iload_n 3, 1) := by decide +kernel
theorem d_R_levels_76 : decode b_R_levels 76 = .ok (.lconst 0, 1) := by decide +kernel
theorem d_R_levels_77 : decode b_R_levels 77 = .ok (.invokevirtual 75, 3) := by decide +kernel
theorem d_R_levels_80 : decode b_R_levels 80 = .ok (.iconst 0, 1) := by decide +kernel
theorem d_R_levels_81 : decode b_R_levels 81 = .ok (.istore 4, 2) := by decide +kernel
theorem d_R_levels_83 : decode b_R_levels 83 = .ok (.iload 4, 2) := by decide +kernel
theorem d_R_levels_85 : decode b_R_levels 85 = .ok (.bipush 8, 2) := by decide +kernel
theorem d_R_levels_87 : decode b_R_levels 87 = .ok (.if_icmp .ge 112, 3) := by decide +kernel
theorem d_R_levels_90 : decode b_R_levels 90 = .ok (.iconst 0, 1) := by decide +kernel
theorem d_R_levels_91 : decode b_R_levels 91 = .ok (.istore 5, 2) := by decide +kernel
theorem d_R_levels_93 : decode b_R_levels 93 = .ok (.iload 5, 2) := by decide +kernel
theorem d_R_levels_95 : decode b_R_levels 95 = .ok (.aload_n 0, 1) := by decide +kernel
theorem d_R_levels_96 : decode b_R_levels 96 = .ok (.getfield 65, 3) := by decide +kernel
theorem d_R_levels_99 : decode b_R_levels 99 = .ok (.if_icmp .ge 94, 3) := by decide +kernel
theorem d_R_levels_102 : decode b_R_levels 102 = .ok (.iconst 0, 1) := by decide +kernel
theorem d_R_levels_103 : decode b_R_levels 103 = .ok (.istore 6, 2) := by decide +kernel
theorem d_R_levels_105 : decode b_R_levels 105 = .ok (.iload 6, 2) := by decide +kernel
theorem d_R_levels_107 : decode b_R_levels 107 = .ok (.aload_n 0, 1) := by decide +kernel
theorem d_R_levels_108 : decode b_R_levels 108 = .ok (.getfield 65, 3) := by decide +kernel
theorem d_R_levels_111 : decode b_R_levels 111 = .ok (.if_icmp .ge 76, 3) := by decide +kernel
theorem d_R_levels_114 : decode b_R_levels 114 = .ok (.aload_n 0, 1) := by decide +kernel
theorem d_R_levels_115 : decode b_R_levels 115 = .ok (.getfield 24, 3) := by decide +kernel
theorem d_R_levels_118 : decode b_R_levels 118 = .ok (.iload 5, 2) := by decide +kernel
theorem d_R_levels_120 : decode b_R_levels 120 = .ok (.baload, 1) := by decide +kernel
theorem d_R_levels_121 : decode b_R_levels 121 = .ok (.ifCond .eq 60, 3) := by decide +kernel
theorem d_R_levels_124 : decode b_R_levels 124 = .ok (.aload_n 0, 1) := by decide +kernel
theorem d_R_levels_125 : decode b_R_levels 125 = .ok (.getfield 27, 3) := by decide +kernel
theorem d_R_levels_128 : decode b_R_levels 128 = .ok (.iload 5, 2) := by decide +kernel
theorem d_R_levels_130 : decode b_R_levels 130 = .ok (.laload, 1) := by decide +kernel
theorem d_R_levels_131 : decode b_R_levels 131 = .ok (.iload 4, 2) := by decide +kernel
theorem d_R_levels_133 : decode b_R_levels 133 = .ok (.i2l, 1) := by decide +kernel
theorem d_R_levels_134 : decode b_R_levels 134 = .ok (.lcmp, 1) := by decide +kernel
theorem d_R_levels_135 : decode b_R_levels 135 = .ok (.ifCond .ne 46, 3) := by decide +kernel
theorem d_R_levels_138 : decode b_R_levels 138 = .ok (.aload_n 0, 1) := by decide +kernel
theorem d_R_levels_139 : decode b_R_levels 139 = .ok (.getfield 16, 3) := by decide +kernel
theorem d_R_levels_142 : decode b_R_levels 142 = .ok (.bipush 64, 2) := by decide +kernel
theorem d_R_levels_144 : decode b_R_levels 144 = .ok (.iload_n 2, 1) := by decide +kernel
theorem d_R_levels_145 : decode b_R_levels 145 = .ok (.imul, 1) := by decide +kernel
theorem d_R_levels_146 : decode b_R_levels 146 = .ok (.bipush 8, 2) := by decide +kernel
theorem d_R_levels_148 : decode b_R_levels 148 = .ok (.iload 5, 2) := by decide +kernel
theorem d_R_levels_150 : decode b_R_levels 150 = .ok (.imul, 1) := by decide +kernel
theorem d_R_levels_151 : decode b_R_levels 151 = .ok (.iadd, 1) := by decide +kernel
theorem d_R_levels_152 : decode b_R_levels 152 = .ok (.iload 6, 2) := by decide +kernel
theorem d_R_levels_154 : decode b_R_levels 154 = .ok (.iadd, 1) := by decide +kernel
theorem d_R_levels_155 : decode b_R_levels 155 = .ok (.baload, 1) := by decide +kernel
theorem d_R_levels_156 : decode b_R_levels 156 = .ok (.ifCond .eq 25, 3) := by decide +kernel
theorem d_R_levels_159 : decode b_R_levels 159 = .ok (.aload_n 0, 1) := by decide +kernel
theorem d_R_levels_160 : decode b_R_levels 160 = .ok (.getfield 24, 3) := by decide +kernel
theorem d_R_levels_163 : decode b_R_levels 163 = .ok (.iload 6, 2) := by decide +kernel
theorem d_R_levels_165 : decode b_R_levels 165 = .ok (.baload, 1) := by decide +kernel
theorem d_R_levels_166 : decode b_R_levels 166 = .ok (.ifCond .ne 15, 3) := by decide +kernel
theorem d_R_levels_169 : decode b_R_levels 169 = .ok (.aload_n 0, 1) := by decide +kernel
theorem d_R_levels_170 : decode b_R_levels 170 = .ok (.iconst 0, 1) := by decide +kernel
theorem d_R_levels_171 : decode b_R_levels 171 = .ok (.iload 6, 2) := by decide +kernel
theorem d_R_levels_173 : decode b_R_levels 173 = .ok (.iload 4, 2) := by decide +kernel
theorem d_R_levels_175 : decode b_R_levels 175 = .ok (.iconst 1, 1) := by decide +kernel
theorem d_R_levels_176 : decode b_R_levels 176 = .ok (.iadd, 1) := by decide +kernel
theorem d_R_levels_177 : decode b_R_levels 177 = .ok (.i2l, 1) := by decide +kernel
theorem d_R_levels_178 : decode b_R_levels 178 = .ok (.invokevirtual 75, 3) := by decide +kernel
theorem d_R_levels_181 : decode b_R_levels 181 = .ok (.iinc 6 1, 3) := by decide +kernel
theorem d_R_levels_184 : decode b_R_levels 184 = .ok (.goto (-79), 3) := by decide +kernel
theorem d_R_levels_187 : decode b_R_levels 187 = .ok (.iinc 5 1, 3) := by decide +kernel
theorem d_R_levels_190 : decode b_R_levels 190 = .ok (.goto (-97), 3) := by decide +kernel
theorem d_R_levels_193 : decode b_R_levels 193 = .ok (.iinc 4 1, 3) := by decide +kernel
theorem d_R_levels_196 : decode b_R_levels 196 = .ok (.goto (-113), 3) := by decide +kernel
theorem d_R_levels_199 : decode b_R_levels 199 = .ok (.aload_n 0, 1) := by decide +kernel
theorem d_R_levels_200 : decode b_R_levels 200 = .ok (.iload_n 1, 1) := by decide +kernel
theorem d_R_levels_201 : decode b_R_levels 201 = .ok (.iconst (-1), 1) := by decide +kernel
theorem d_R_levels_202 : decode b_R_levels 202 = .ok (.invokevirtual 93, 3) := by decide +kernel
theorem d_R_levels_205 : decode b_R_levels 205 = .ok (.ireturn, 1) := by decide +kernel
theorem d_R_relax_0 : decode b_R_relax 0 = .ok (.iconst 0, 1) := by decide +kernel
theorem d_R_relax_1 : decode b_R_relax 1 = .ok (.istore_n 1, 1) := by decide +kernel
theorem d_R_relax_2 : decode b_R_relax 2 = .ok (.iload_n 1, 1) := by decide +kernel
theorem d_R_relax_3 : decode b_R_relax 3 = .ok (.aload_n 0, 1) := by decide +kernel
theorem d_R_relax_4 : decode b_R_relax 4 = .ok (.getfield 62, 3) := by decide +kernel
theorem d_R_relax_7 : decode b_R_relax 7 = .ok (.if_icmp .ge 133, 3) := by decide +kernel
theorem d_R_relax_10 : decode b_R_relax 10 = .ok (.iconst 0, 1) := by decide +kernel
theorem d_R_relax_11 : decode b_R_relax 11 = .ok (.istore_n 2, 1) := by decide +kernel
theorem d_R_relax_12 : decode b_R_relax 12 = .ok (.iload_n 2, 1) := by decide +kernel
theorem d_R_relax_13 : decode b_R_relax 13 = .ok (.aload_n 0, 1) := by decide +kernel
theorem d_R_relax_14 : decode b_R_relax 14 = .ok (.getfield 62, 3) := by decide +kernel
theorem d_R_relax_17 : decode b_R_relax 17 = .ok (.if_icmp .ge 117, 3) := by decide +kernel
theorem d_R_relax_20 : decode b_R_relax 20 = .ok (.iconst 0, 1) := by decide +kernel
theorem d_R_relax_21 : decode b_R_relax 21 = .ok (.istore_n 3, 1) := by decide +kernel
theorem d_R_relax_22 : decode b_R_relax 22 = .ok (.iload_n 3, 1) := by decide +kernel
theorem d_R_relax_23 : decode b_R_relax 23 = .ok (.aload_n 0, 1) := by decide +kernel
theorem d_R_relax_24 : decode b_R_relax 24 = .ok (.getfield 62, 3) := by decide +kernel
theorem d_R_relax_27 : decode b_R_relax 27 = .ok (.if_icmp .ge 101, 3) := by decide +kernel
theorem d_R_relax_30 : decode b_R_relax 30 = .ok (.aload_n 0, 1) := by decide +kernel
theorem d_R_relax_31 : decode b_R_relax 31 = .ok (.getfield 24, 3) := by decide +kernel
theorem d_R_relax_34 : decode b_R_relax 34 = .ok (.bipush 8, 2) := by decide +kernel
theorem d_R_relax_36 : decode b_R_relax 36 = .ok (.iload_n 2, 1) := by decide +kernel
theorem d_R_relax_37 : decode b_R_relax 37 = .ok (.imul, 1) := by decide +kernel
theorem d_R_relax_38 : decode b_R_relax 38 = .ok (.iload_n 1, 1) := by decide +kernel
theorem d_R_relax_39 : decode b_R_relax 39 = .ok (.iadd, 1) := by decide +kernel
theorem d_R_relax_40 : decode b_R_relax 40 = .ok (.baload, 1) := by decide +kernel
theorem d_R_relax_41 : decode b_R_relax 41 = .ok (.ifCond .eq 81, 3) := by decide +kernel
theorem d_R_relax_44 : decode b_R_relax 44 = .ok (.aload_n 0, 1) := by decide +kernel
theorem d_R_relax_45 : decode b_R_relax 45 = .ok (.getfield 24, 3) := by decide +kernel
theorem d_R_relax_48 : decode b_R_relax 48 = .ok (.bipush 8, 2) := by decide +kernel
theorem d_R_relax_50 : decode b_R_relax 50 = .ok (.iload_n 1, 1) := by decide +kernel
theorem d_R_relax_51 : decode b_R_relax 51 = .ok (.imul, 1) := by decide +kernel
theorem d_R_relax_52 : decode b_R_relax 52 = .ok (.iload_n 3, 1) := by decide +kernel
theorem d_R_relax_53 : decode b_R_relax 53 = .ok (.iadd, 1) := by decide +kernel
theorem d_R_relax_54 : decode b_R_relax 54 = .ok (.baload, 1) := by decide +kernel
theorem d_R_relax_55 : decode b_R_relax 55 = .ok (.ifCond .eq 67, 3) := by decide +kernel
theorem d_R_relax_58 : decode b_R_relax 58 = .ok (.aload_n 0, 1) := by decide +kernel
theorem d_R_relax_59 : decode b_R_relax 59 = .ok (.getfield 27, 3) := by decide +kernel
theorem d_R_relax_62 : decode b_R_relax 62 = .ok (.bipush 8, 2) := by decide +kernel
theorem d_R_relax_64 : decode b_R_relax 64 = .ok (.iload_n 2, 1) := by decide +kernel
theorem d_R_relax_65 : decode b_R_relax 65 = .ok (.imul, 1) := by decide +kernel
theorem d_R_relax_66 : decode b_R_relax 66 = .ok (.iload_n 1, 1) := by decide +kernel
theorem d_R_relax_67 : decode b_R_relax 67 = .ok (.iadd, 1) := by decide +kernel
theorem d_R_relax_68 : decode b_R_relax 68 = .ok (.laload, 1) := by decide +kernel
theorem d_R_relax_69 : decode b_R_relax 69 = .ok (.aload_n 0, 1) := by decide +kernel
theorem d_R_relax_70 : decode b_R_relax 70 = .ok (.getfield 27, 3) := by decide +kernel
theorem d_R_relax_73 : decode b_R_relax 73 = .ok (.bipush 8, 2) := by decide +kernel
theorem d_R_relax_75 : decode b_R_relax 75 = .ok (.iload_n 1, 1) := by decide +kernel
theorem d_R_relax_76 : decode b_R_relax 76 = .ok (.imul, 1) := by decide +kernel
theorem d_R_relax_77 : decode b_R_relax 77 = .ok (.iload_n 3, 1) := by decide +kernel
theorem d_R_relax_78 : decode b_R_relax 78 = .ok (.iadd, 1) := by decide +kernel
theorem d_R_relax_79 : decode b_R_relax 79 = .ok (.laload, 1) := by decide +kernel
theorem d_R_relax_80 : decode b_R_relax 80 = .ok (.ladd, 1) := by decide +kernel
theorem d_R_relax_81 : decode b_R_relax 81 = .ok (.lstore 4, 2) := by decide +kernel
theorem d_R_relax_83 : decode b_R_relax 83 = .ok (.aload_n 0, 1) := by decide +kernel
theorem d_R_relax_84 : decode b_R_relax 84 = .ok (.getfield 24, 3) := by decide +kernel
theorem d_R_relax_87 : decode b_R_relax 87 = .ok (.bipush 8, 2) := by decide +kernel
theorem d_R_relax_89 : decode b_R_relax 89 = .ok (.iload_n 2, 1) := by decide +kernel
theorem d_R_relax_90 : decode b_R_relax 90 = .ok (.imul, 1) := by decide +kernel
theorem d_R_relax_91 : decode b_R_relax 91 = .ok (.iload_n 3, 1) := by decide +kernel
theorem d_R_relax_92 : decode b_R_relax 92 = .ok (.iadd, 1) := by decide +kernel
theorem d_R_relax_93 : decode b_R_relax 93 = .ok (.baload, 1) := by decide +kernel
theorem d_R_relax_94 : decode b_R_relax 94 = .ok (.ifCond .eq 20, 3) := by decide +kernel
theorem d_R_relax_97 : decode b_R_relax 97 = .ok (.lload 4, 2) := by decide +kernel
theorem d_R_relax_99 : decode b_R_relax 99 = .ok (.aload_n 0, 1) := by decide +kernel
theorem d_R_relax_100 : decode b_R_relax 100 = .ok (.getfield 27, 3) := by decide +kernel
theorem d_R_relax_103 : decode b_R_relax 103 = .ok (.bipush 8, 2) := by decide +kernel
theorem d_R_relax_105 : decode b_R_relax 105 = .ok (.iload_n 2, 1) := by decide +kernel
theorem d_R_relax_106 : decode b_R_relax 106 = .ok (.imul, 1) := by decide +kernel
theorem d_R_relax_107 : decode b_R_relax 107 = .ok (.iload_n 3, 1) := by decide +kernel
theorem d_R_relax_108 : decode b_R_relax 108 = .ok (.iadd, 1) := by decide +kernel
theorem d_R_relax_109 : decode b_R_relax 109 = .ok (.laload, 1) := by decide +kernel
theorem d_R_relax_110 : decode b_R_relax 110 = .ok (.lcmp, 1) := by decide +kernel
theorem d_R_relax_111 : decode b_R_relax 111 = .ok (.ifCond .ge 11, 3) := by decide +kernel
theorem d_R_relax_114 : decode b_R_relax 114 = .ok (.aload_n 0, 1) := by decide +kernel
theorem d_R_relax_115 : decode b_R_relax 115 = .ok (.iload_n 2, 1) := by decide +kernel
theorem d_R_relax_116 : decode b_R_relax 116 = .ok (.iload_n 3, 1) := by decide +kernel
theorem d_R_relax_117 : decode b_R_relax 117 = .ok (.lload 4, 2) := by decide +kernel
theorem d_R_relax_119 : decode b_R_relax 119 = .ok (.invokevirtual 75, 3) := by decide +kernel
theorem d_R_relax_122 : decode b_R_relax 122 = .ok (.iinc 3 1, 3) := by decide +kernel
theorem d_R_relax_125 : decode b_R_relax 125 = .ok (.goto (-103), 3) := by decide +kernel
theorem d_R_relax_128 : decode b_R_relax 128 = .ok (.iinc 2 1, 3) := by decide +kernel
theorem d_R_relax_131 : decode b_R_relax 131 = .ok (.goto (-119), 3) := by decide +kernel
theorem d_R_relax_134 : decode b_R_relax 134 = .ok (.iinc 1 1, 3) := by decide +kernel
theorem d_R_relax_137 : decode b_R_relax 137 = .ok (.goto (-135), 3) := by decide +kernel
theorem d_R_relax_140 : decode b_R_relax 140 = .ok (.return_, 1) := by decide +kernel
theorem d_R_paths_0 : decode b_R_paths 0 = .ok (.aload_n 0, 1) := by decide +kernel
theorem d_R_paths_1 : decode b_R_paths 1 = .ok (.iload_n 1, 1) := by decide +kernel
theorem d_R_paths_2 : decode b_R_paths 2 = .ok (.invokestatic 38, 3) := by decide +kernel
theorem d_R_paths_5 : decode b_R_paths 5 = .ok (.ifCond .eq 10, 3) := by decide +kernel
theorem d_R_paths_8 : decode b_R_paths 8 = .ok (.iload_n 2, 1) := by decide +kernel
theorem d_R_paths_9 : decode b_R_paths 9 = .ok (.invokestatic 38, 3) := by decide +kernel
theorem d_R_paths_12 : decode b_R_paths 12 = .ok (.ifCond .ne 7, 3) := by decide +kernel
theorem d_R_paths_15 : decode b_R_paths 15 = .ok (.iconst 1, 1) := by decide +kernel
theorem d_R_paths_16 : decode b_R_paths 16 = .ok (.goto 16, 3) := by decide +kernel
theorem d_R_paths_19 : decode b_R_paths 19 = .ok (.aload_n 0, 1) := by decide +kernel
theorem d_R_paths_20 : decode b_R_paths 20 = .ok (.iload_n 2, 1) := by decide +kernel
theorem d_R_paths_21 : decode b_R_paths 21 = .ok (.invokevirtual 105, 3) := by decide +kernel
theorem d_R_paths_24 : decode b_R_paths 24 = .ok (.ifCond .ne 7, 3) := by decide +kernel
theorem d_R_paths_27 : decode b_R_paths 27 = .ok (.iconst 2, 1) := by decide +kernel
theorem d_R_paths_28 : decode b_R_paths 28 = .ok (.goto 4, 3) := by decide +kernel
theorem d_R_paths_31 : decode b_R_paths 31 = .ok (.iconst 0, 1) := by decide +kernel
theorem d_R_paths_32 : decode b_R_paths 32 = .ok (.putfield 30, 3) := by decide +kernel
theorem d_R_paths_35 : decode b_R_paths 35 = .ok (.aload_n 0, 1) := by decide +kernel
theorem d_R_paths_36 : decode b_R_paths 36 = .ok (.getfield 30, 3) := by decide +kernel
theorem d_R_paths_39 : decode b_R_paths 39 = .ok (.ifCond .le 5, 3) := by decide +kernel
theorem d_R_paths_42 : decode b_R_paths 42 = .ok (.iconst 0, 1) := by decide +kernel
theorem d_R_paths_43 : decode b_R_paths 43 = .ok (.ireturn, 1) := by decide +kernel
theorem d_R_paths_44 : decode b_R_paths 44 = .ok (.aload_n 0, 1) := by decide +kernel
theorem d_R_paths_45 : decode b_R_paths 45 = .ok (.aload_n 0, 1) := by decide +kernel
theorem d_R_paths_46 : decode b_R_paths 46 = .ok (.getfield 7, 3) := by decide +kernel
theorem d_R_paths_49 : decode b_R_paths 49 = .ok (.iload_n 2, 1) := by decide +kernel
theorem d_R_paths_50 : decode b_R_paths 50 = .ok (.iaload, 1) := by decide +kernel
theorem d_R_paths_51 : decode b_R_paths 51 = .ok (.aload_n 0, 1) := by decide +kernel
theorem d_R_paths_52 : decode b_R_paths 52 = .ok (.getfield 7, 3) := by decide +kernel
theorem d_R_paths_55 : decode b_R_paths 55 = .ok (.iload_n 2, 1) := by decide +kernel
theorem d_R_paths_56 : decode b_R_paths 56 = .ok (.iaload, 1) := by decide +kernel
theorem d_R_paths_57 : decode b_R_paths 57 = .ok (.invokevirtual 82, 3) := by decide +kernel
theorem d_R_paths_60 : decode b_R_paths 60 = .ok (.iconst 0, 1) := by decide +kernel
theorem d_R_paths_61 : decode b_R_paths 61 = .ok (.istore_n 3, 1) := by decide +kernel
theorem d_R_paths_62 : decode b_R_paths 62 = .ok (.iload_n 3, 1) := by decide +kernel
theorem d_R_paths_63 : decode b_R_paths 63 = .ok (.bipush 64, 2) := by decide +kernel
theorem d_R_paths_65 : decode b_R_paths 65 = .ok (.if_icmp .ge 84, 3) := by decide +kernel
theorem d_R_paths_68 : decode b_R_paths 68 = .ok (.aload_n 0, 1) := by decide +kernel
theorem d_R_paths_69 : decode b_R_paths 69 = .ok (.getfield 16, 3) := by decide +kernel
theorem d_R_paths_72 : decode b_R_paths 72 = .ok (.bipush 64, 2) := by decide +kernel
theorem d_R_paths_74 : decode b_R_paths 74 = .ok (.iload_n 2, 1) := by decide +kernel
theorem d_R_paths_75 : decode b_R_paths 75 = .ok (.imul, 1) := by decide +kernel
theorem d_R_paths_76 : decode b_R_paths 76 = .ok (.iload_n 3, 1) := by decide +kernel
theorem d_R_paths_77 : decode b_R_paths 77 = .ok (.iadd, 1) := by decide +kernel
theorem d_R_paths_78 : decode b_R_paths 78 = .ok (.baload, 1) := by decide +kernel
theorem d_R_paths_79 : decode b_R_paths 79 = .ok (.ifCond .eq 64, 3) := by decide +kernel
theorem d_R_paths_82 : decode b_R_paths 82 = .ok (.aload_n 0, 1) := by decide +kernel
theorem d_R_paths_83 : decode b_R_paths 83 = .ok (.getfield 20, 3) := by decide +kernel
theorem d_R_paths_86 : decode b_R_paths 86 = .ok (.bipush 64, 2) := by decide +kernel
theorem d_R_paths_88 : decode b_R_paths 88 = .ok (.iload_n 2, 1) := by decide +kernel
theorem d_R_paths_89 : decode b_R_paths 89 = .ok (.imul, 1) := by decide +kernel
theorem d_R_paths_90 : decode b_R_paths 90 = .ok (.iload_n 3, 1) := by decide +kernel
theorem d_R_paths_91 : decode b_R_paths 91 = .ok (.iadd, 1) := by decide +kernel
theorem d_R_paths_92 : decode b_R_paths 92 = .ok (.laload, 1) := by decide +kernel
theorem d_R_paths_93 : decode b_R_paths 93 = .ok (.lstore 4, 2) := by decide +kernel
theorem d_R_paths_95 : decode b_R_paths 95 = .ok (.aload_n 0, 1) := by decide +kernel
theorem d_R_paths_96 : decode b_R_paths 96 = .ok (.aload_n 0, 1) := by decide +kernel
theorem d_R_paths_97 : decode b_R_paths 97 = .ok (.getfield 54, 3) := by decide +kernel
theorem d_R_paths_100 : decode b_R_paths 100 = .ok (.ifCond .ne 21, 3) := by decide +kernel
theorem d_R_paths_103 : decode b_R_paths 103 = .ok (.lload 4, 2) := by decide +kernel
theorem d_R_paths_105 : decode b_R_paths 105 = .ok (.ldc2_w 108, 3) := by decide +kernel
theorem d_R_paths_108 : decode b_R_paths 108 = .ok (.lcmp, 1) := by decide +kernel
theorem d_R_paths_109 : decode b_R_paths 109 = .ok (.ifCond .lt 12, 3) := by decide +kernel
theorem d_R_paths_112 : decode b_R_paths 112 = .ok (.lload 4, 2) := by decide +kernel
theorem d_R_paths_114 : decode b_R_paths 114 = .ok (.ldc2_w 110, 3) := by decide +kernel
theorem d_R_paths_117 : decode b_R_paths 117 = .ok (.lcmp, 1) := by decide +kernel
theorem d_R_paths_118 : decode b_R_paths 118 = .ok (.ifCond .le 7, 3) := by decide +kernel
theorem d_R_paths_121 : decode b_R_paths 121 = .ok (.iconst 1, 1) := by decide +kernel
theorem d_R_paths_122 : decode b_R_paths 122 = .ok (.goto 4, 3) := by decide +kernel
theorem d_R_paths_125 : decode b_R_paths 125 = .ok (.iconst 0, 1) := by decide +kernel
theorem d_R_paths_126 : decode b_R_paths 126 = .ok (.putfield 54, 3) := by decide +kernel
theorem d_R_paths_129 : decode b_R_paths 129 = .ok (.aload_n 0, 1) := by decide +kernel
theorem d_R_paths_130 : decode b_R_paths 130 = .ok (.iload_n 3, 1) := by decide +kernel
theorem d_R_paths_131 : decode b_R_paths 131 = .ok (.bipush 8, 2) := by decide +kernel
theorem d_R_paths_133 : decode b_R_paths 133 = .ok (.idiv, 1) := by decide +kernel
theorem d_R_paths_134 : decode b_R_paths 134 = .ok (.iload_n 3, 1) := by decide +kernel
theorem d_R_paths_135 : decode b_R_paths 135 = .ok (.bipush 8, 2) := by decide +kernel
theorem d_R_paths_137 : decode b_R_paths 137 = .ok (.irem, 1) := by decide +kernel
theorem d_R_paths_138 : decode b_R_paths 138 = .ok (.lload 4, 2) := by decide +kernel
theorem d_R_paths_140 : decode b_R_paths 140 = .ok (.invokevirtual 75, 3) := by decide +kernel
theorem d_R_paths_143 : decode b_R_paths 143 = .ok (.iinc 3 1, 3) := by decide +kernel
theorem d_R_paths_146 : decode b_R_paths 146 = .ok (.goto (-84), 3) := by decide +kernel
theorem d_R_paths_149 : decode b_R_paths 149 = .ok (.iconst 0, 1) := by decide +kernel
theorem d_R_paths_150 : decode b_R_paths 150 = .ok (.istore_n 3, 1) := by decide +kernel
theorem d_R_paths_151 : decode b_R_paths 151 = .ok (.iconst 0, 1) := by decide +kernel
theorem d_R_paths_152 : decode b_R_paths 152 = .ok (.istore 4, 2) := by decide +kernel
theorem d_R_paths_154 : decode b_R_paths 154 = .ok (.iload 4, 2) := by decide +kernel
theorem d_R_paths_156 : decode b_R_paths 156 = .ok (.aload_n 0, 1) := by decide +kernel
theorem d_R_paths_157 : decode b_R_paths 157 = .ok (.getfield 62, 3) := by decide +kernel
theorem d_R_paths_160 : decode b_R_paths 160 = .ok (.if_icmp .ge 46, 3) := by decide +kernel
theorem d_R_paths_163 : decode b_R_paths 163 = .ok (.aload_n 0, 1) := by decide +kernel
theorem d_R_paths_164 : decode b_R_paths 164 = .ok (.getfield 24, 3) := by decide +kernel
theorem d_R_paths_167 : decode b_R_paths 167 = .ok (.bipush 9, 2) := by decide +kernel
theorem d_R_paths_169 : decode b_R_paths 169 = .ok (.iload 4, 2) := by decide +kernel
theorem d_R_paths_171 : decode b_R_paths 171 = .ok (.imul, 1) := by decide +kernel
theorem d_R_paths_172 : decode b_R_paths 172 = .ok (.baload, 1) := by decide +kernel
theorem d_R_paths_173 : decode b_R_paths 173 = .ok (.ifCond .eq 18, 3) := by decide +kernel
theorem d_R_paths_176 : decode b_R_paths 176 = .ok (.aload_n 0, 1) := by decide +kernel
theorem d_R_paths_177 : decode b_R_paths 177 = .ok (.getfield 27, 3) := by decide +kernel
theorem d_R_paths_180 : decode b_R_paths 180 = .ok (.bipush 9, 2) := by decide +kernel
theorem d_R_paths_182 : decode b_R_paths 182 = .ok (.iload 4, 2) := by decide +kernel
theorem d_R_paths_184 : decode b_R_paths 184 = .ok (.imul, 1) := by decide +kernel
theorem d_R_paths_185 : decode b_R_paths 185 = .ok (.laload, 1) := by decide +kernel
theorem d_R_paths_186 : decode b_R_paths 186 = .ok (.lconst 0, 1) := by decide +kernel
theorem d_R_paths_187 : decode b_R_paths 187 = .ok (.lcmp, 1) := by decide +kernel
theorem d_R_paths_188 : decode b_R_paths 188 = .ok (.ifCond .le 12, 3) := by decide +kernel
theorem d_R_paths_191 : decode b_R_paths 191 = .ok (.aload_n 0, 1) := by decide +kernel
theorem d_R_paths_192 : decode b_R_paths 192 = .ok (.iload 4, 2) := by decide +kernel
theorem d_R_paths_194 : decode b_R_paths 194 = .ok (.iload 4, 2) := by decide +kernel
theorem d_R_paths_196 : decode b_R_paths 196 = .ok (.lconst 0, 1) := by decide +kernel
theorem d_R_paths_197 : decode b_R_paths 197 = .ok (.invokevirtual 75, 3) := by decide +kernel
theorem d_R_paths_200 : decode b_R_paths 200 = .ok (.iinc 4 1, 3) := by decide +kernel
theorem d_R_paths_203 : decode b_R_paths 203 = .ok (.goto (-49), 3) := by decide +kernel
theorem d_R_paths_206 : decode b_R_paths 206 = .ok (.aload_n 0, 1) := by decide +kernel
theorem d_R_paths_207 : decode b_R_paths 207 = .ok (.getfield 54, 3) := by decide +kernel
theorem d_R_paths_210 : decode b_R_paths 210 = .ok (.ifCond .ne 7, 3) := by decide +kernel
theorem d_R_paths_213 : decode b_R_paths 213 = .ok (.aload_n 0, 1) := by decide +kernel
theorem d_R_paths_214 : decode b_R_paths 214 = .ok (.invokevirtual 112, 3) := by decide +kernel
theorem d_R_paths_217 : decode b_R_paths 217 = .ok (.iconst 0, 1) := by decide +kernel
theorem d_R_paths_218 : decode b_R_paths 218 = .ok (.istore 4, 2) := by decide +kernel
theorem d_R_paths_220 : decode b_R_paths 220 = .ok (.iload 4, 2) := by decide +kernel
theorem d_R_paths_222 : decode b_R_paths 222 = .ok (.aload_n 0, 1) := by decide +kernel
theorem d_R_paths_223 : decode b_R_paths 223 = .ok (.getfield 62, 3) := by decide +kernel
theorem d_R_paths_226 : decode b_R_paths 226 = .ok (.if_icmp .ge 34, 3) := by decide +kernel
theorem d_R_paths_229 : decode b_R_paths 229 = .ok (.iload_n 3, 1) := by decide +kernel
theorem d_R_paths_230 : decode b_R_paths 230 = .ok (.ifCond .ne 18, 3) := by decide +kernel
theorem d_R_paths_233 : decode b_R_paths 233 = .ok (.aload_n 0, 1) := by decide +kernel
theorem d_R_paths_234 : decode b_R_paths 234 = .ok (.getfield 27, 3) := by decide +kernel
theorem d_R_paths_237 : decode b_R_paths 237 = .ok (.bipush 9, 2) := by decide +kernel
theorem d_R_paths_239 : decode b_R_paths 239 = .ok (.iload 4, 2) := by decide +kernel
theorem d_R_paths_241 : decode b_R_paths 241 = .ok (.imul, 1) := by decide +kernel
theorem d_R_paths_242 : decode b_R_paths 242 = .ok (.laload, 1) := by decide +kernel
theorem d_R_paths_243 : decode b_R_paths 243 = .ok (.lconst 0, 1) := by decide +kernel
theorem d_R_paths_244 : decode b_R_paths 244 = .ok (.lcmp, 1) := by decide +kernel
theorem d_R_paths_245 : decode b_R_paths 245 = .ok (.ifCond .ge 7, 3) := by decide +kernel
theorem d_R_paths_248 : decode b_R_paths 248 = .ok (.iconst 1, 1) := by decide +kernel
theorem d_R_paths_249 : decode b_R_paths 249 = .ok (.goto 4, 3) := by decide +kernel
theorem d_R_paths_252 : decode b_R_paths 252 = .ok (.iconst 0, 1) := by decide +kernel
theorem d_R_paths_253 : decode b_R_paths 253 = .ok (.istore_n 3, 1) := by decide +kernel
theorem d_R_paths_254 : decode b_R_paths 254 = .ok (.iinc 4 1, 3) := by decide +kernel
theorem d_R_paths_257 : decode b_R_paths 257 = .ok (.goto (-37), 3) := by decide +kernel
theorem d_R_paths_260 : decode b_R_paths 260 = .ok (.aload_n 0, 1) := by decide +kernel
theorem d_R_paths_261 : decode b_R_paths 261 = .ok (.aload_n 0, 1) := by decide +kernel
theorem d_R_paths_262 : decode b_R_paths 262 = .ok (.getfield 54, 3) := by decide +kernel
theorem d_R_paths_265 : decode b_R_paths 265 = .ok (.ifCond .eq 7, 3) := by decide +kernel
theorem d_R_paths_268 : decode b_R_paths 268 = .ok (.iconst 3, 1) := by decide +kernel
theorem d_R_paths_269 : decode b_R_paths 269 = .ok (.goto 12, 3) := by decide +kernel
theorem d_R_paths_272 : decode b_R_paths 272 = .ok (.iload_n 3, 1) := by decide +kernel
theorem d_R_paths_273 : decode b_R_paths 273 = .ok (.ifCond .eq 7, 3) := by decide +kernel
theorem d_R_paths_276 : decode b_R_paths 276 = .ok (.iconst 4, 1) := by decide +kernel
theorem d_R_paths_277 : decode b_R_paths 277 = .ok (.goto 4, 3) := by decide +kernel
theorem d_R_paths_280 : decode b_R_paths 280 = .ok (.iconst 0, 1) := by decide +kernel
theorem d_R_paths_281 : decode b_R_paths 281 = .ok (.putfield 30, 3) := by decide +kernel
theorem d_R_paths_284 : decode b_R_paths 284 = .ok (.aload_n 0, 1) := by decide +kernel
theorem d_R_paths_285 : decode b_R_paths 285 = .ok (.getfield 30, 3) := by decide +kernel
theorem d_R_paths_288 : decode b_R_paths 288 = .ok (.ifCond .le 7, 3) := by decide +kernel
theorem d_R_paths_291 : decode b_R_paths 291 = .ok (.iconst 0, 1) := by decide +kernel
theorem d_R_paths_292 : decode b_R_paths 292 = .ok (.goto 9, 3) := by decide +kernel
theorem d_R_paths_295 : decode b_R_paths 295 = .ok (.aload_n 0, 1) := by decide +kernel
theorem d_R_paths_296 : decode b_R_paths 296 = .ok (.iload_n 1, 1) := by decide +kernel
theorem d_R_paths_297 : decode b_R_paths 297 = .ok (.iconst (-1), 1) := by decide +kernel
theorem d_R_paths_298 : decode b_R_paths 298 = .ok (.invokevirtual 93, 3) := by decide +kernel
theorem d_R_paths_301 : decode b_R_paths 301 = .ok (.ireturn, 1) := by decide +kernel
theorem d_R_triangles_0 : decode b_R_triangles 0 = .ok (.aload_n 0, 1) := by decide +kernel
theorem d_R_triangles_1 : decode b_R_triangles 1 = .ok (.iload_n 1, 1) := by decide +kernel
theorem d_R_triangles_2 : decode b_R_triangles 2 = .ok (.invokestatic 38, 3) := by decide +kernel
theorem d_R_triangles_5 : decode b_R_triangles 5 = .ok (.ifCond .ne 7, 3) := by decide +kernel
theorem d_R_triangles_8 : decode b_R_triangles 8 = .ok (.iconst 1, 1) := by decide +kernel
theorem d_R_triangles_9 : decode b_R_triangles 9 = .ok (.goto 16, 3) := by decide +kernel
theorem d_R_triangles_12 : decode b_R_triangles 12 = .ok (.aload_n 0, 1) := by decide +kernel
theorem d_R_triangles_13 : decode b_R_triangles 13 = .ok (.iload_n 1, 1) := by decide +kernel
theorem d_R_triangles_14 : decode b_R_triangles 14 = .ok (.invokevirtual 105, 3) := by decide +kernel
theorem d_R_triangles_17 : decode b_R_triangles 17 = .ok (.ifCond .ne 7, 3) := by decide +kernel
theorem d_R_triangles_20 : decode b_R_triangles 20 = .ok (.iconst 2, 1) := by decide +kernel
theorem d_R_triangles_21 : decode b_R_triangles 21 = .ok (.goto 4, 3) := by decide +kernel
theorem d_R_triangles_24 : decode b_R_triangles 24 = .ok (.iconst 0, 1) := by decide +kernel
theorem d_R_triangles_25 : decode b_R_triangles 25 = .ok (.putfield 30, 3) := by decide +kernel
theorem d_R_triangles_28 : decode b_R_triangles 28 = .ok (.aload_n 0, 1) := by decide +kernel
theorem d_R_triangles_29 : decode b_R_triangles 29 = .ok (.getfield 30, 3) := by decide +kernel
theorem d_R_triangles_32 : decode b_R_triangles 32 = .ok (.ifCond .le 5, 3) := by decide +kernel
theorem d_R_triangles_35 : decode b_R_triangles 35 = .ok (.iconst 0, 1) := by decide +kernel
theorem d_R_triangles_36 : decode b_R_triangles 36 = .ok (.ireturn, 1) := by decide +kernel
theorem d_R_triangles_37 : decode b_R_triangles 37 = .ok (.iconst 0, 1) := by decide +kernel
theorem d_R_triangles_38 : decode b_R_triangles 38 = .ok (.istore_n 2, 1) := by decide +kernel
theorem d_R_triangles_39 : decode b_R_triangles 39 = .ok (.bipush 64, 2) := by decide +kernel
theorem d_R_triangles_41 : decode b_R_triangles 41 = .ok (.iload_n 1, 1) := by decide +kernel
theorem d_R_triangles_42 : decode b_R_triangles 42 = .ok (.imul, 1) := by decide +kernel
theorem d_R_triangles_43 : decode b_R_triangles 43 = .ok (.istore_n 3, 1) := by decide +kernel
theorem d_R_triangles_44 : decode b_R_triangles 44 = .ok (.iconst 0, 1) := by decide +kernel
theorem d_R_triangles_45 : decode b_R_triangles 45 = .ok (.istore 4, 2) := by decide +kernel
theorem d_R_triangles_47 : decode b_R_triangles 47 = .ok (.iload 4, 2) := by decide +kernel
theorem d_R_triangles_49 : decode b_R_triangles 49 = .ok (.aload_n 0, 1) := by decide +kernel
theorem d_R_triangles_50 : decode b_R_triangles 50 = .ok (.getfield 7, 3) := by decide +kernel
theorem d_R_triangles_53 : decode b_R_triangles 53 = .ok (.iload_n 1, 1) := by decide +kernel
theorem d_R_triangles_54 : decode b_R_triangles 54 = .ok (.iaload, 1) := by decide +kernel
theorem d_R_triangles_55 : decode b_R_triangles 55 = .ok (.if_icmp .ge 117, 3) := by decide +kernel
theorem d_R_triangles_58 : decode b_R_triangles 58 = .ok (.iload 4, 2) := by decide +kernel
theorem d_R_triangles_60 : decode b_R_triangles 60 = .ok (.iconst 1, 1) := by decide +kernel
theorem d_R_triangles_61 : decode b_R_triangles 61 = .ok (.iadd, 1) := by decide +kernel
theorem d_R_triangles_62 : decode b_R_triangles 62 = .ok (.istore 5, 2) := by decide +kernel
theorem d_R_triangles_64 : decode b_R_triangles 64 = .ok (.iload 5, 2) := by decide +kernel
theorem d_R_triangles_66 : decode b_R_triangles 66 = .ok (.aload_n 0, 1) := by decide +kernel
theorem d_R_triangles_67 : decode b_R_triangles 67 = .ok (.getfield 7, 3) := by decide +kernel
theorem d_R_triangles_70 : decode b_R_triangles 70 = .ok (.iload_n 1, 1) := by decide +kernel
theorem d_R_triangles_71 : decode b_R_triangles 71 = .ok (.iaload, 1) := by decide +kernel
theorem d_R_triangles_72 : decode b_R_triangles 72 = .ok (.if_icmp .ge 94, 3) := by decide +kernel
theorem d_R_triangles_75 : decode b_R_triangles 75 = .ok (.iload 5, 2) := by decide +kernel
theorem d_R_triangles_77 : decode b_R_triangles 77 = .ok (.iconst 1, 1) := by decide +kernel
theorem d_R_triangles_78 : decode b_R_triangles 78 = .ok (.iadd, 1) := by decide +kernel
theorem d_R_triangles_79 : decode b_R_triangles 79 = .ok (.istore 6, 2) := by decide +kernel
theorem d_R_triangles_81 : decode b_R_triangles 81 = .ok (.iload 6, 2) := by decide +kernel
theorem d_R_triangles_83 : decode b_R_triangles 83 = .ok (.aload_n 0, 1) := by decide +kernel
theorem d_R_triangles_84 : decode b_R_triangles 84 = .ok (.getfield 7, 3) := by decide +kernel
theorem d_R_triangles_87 : decode b_R_triangles 87 = .ok (.iload_n 1, 1) := by decide +kernel
theorem d_R_triangles_88 : decode b_R_triangles 88 = .ok (.iaload, 1) := by decide +kernel
theorem d_R_triangles_89 : decode b_R_triangles 89 = .ok (.if_icmp .ge 71, 3) := by decide +kernel
theorem d_R_triangles_92 : decode b_R_triangles 92 = .ok (.iload_n 2, 1) := by decide +kernel
theorem d_R_triangles_93 : decode b_R_triangles 93 = .ok (.aload_n 0, 1) := by decide +kernel
theorem d_R_triangles_94 : decode b_R_triangles 94 = .ok (.getfield 16, 3) := by decide +kernel
theorem d_R_triangles_97 : decode b_R_triangles 97 = .ok (.iload_n 3, 1) := by decide +kernel
theorem d_R_triangles_98 : decode b_R_triangles 98 = .ok (.bipush 8, 2) := by decide +kernel
theorem d_R_triangles_100 : decode b_R_triangles 100 = .ok (.iload 5, 2) := by decide +kernel
theorem d_R_triangles_102 : decode b_R_triangles 102 = .ok (.imul, 1) := by decide +kernel
theorem d_R_triangles_103 : decode b_R_triangles 103 = .ok (.iadd, 1) := by decide +kernel
theorem d_R_triangles_104 : decode b_R_triangles 104 = .ok (.iload 4, 2) := by decide +kernel
theorem d_R_triangles_106 : decode b_R_triangles 106 = .ok (.iadd, 1) := by decide +kernel
theorem d_R_triangles_107 : decode b_R_triangles 107 = .ok (.baload, 1) := by decide +kernel
theorem d_R_triangles_108 : decode b_R_triangles 108 = .ok (.ifCond .eq 43, 3) := by decide +kernel
theorem d_R_triangles_111 : decode b_R_triangles 111 = .ok (.aload_n 0, 1) := by decide +kernel
theorem d_R_triangles_112 : decode b_R_triangles 112 = .ok (.getfield 16, 3) := by decide +kernel
theorem d_R_triangles_115 : decode b_R_triangles 115 = .ok (.iload_n 3, 1) := by decide +kernel
theorem d_R_triangles_116 : decode b_R_triangles 116 = .ok (.bipush 8, 2) := by decide +kernel
theorem d_R_triangles_118 : decode b_R_triangles 118 = .ok (.iload 6, 2) := by decide +kernel
theorem d_R_triangles_120 : decode b_R_triangles 120 = .ok (.imul, 1) := by decide +kernel
theorem d_R_triangles_121 : decode b_R_triangles 121 = .ok (.iadd, 1) := by decide +kernel
theorem d_R_triangles_122 : decode b_R_triangles 122 = .ok (.iload 4, 2) := by decide +kernel
theorem d_R_triangles_124 : decode b_R_triangles 124 = .ok (.iadd, 1) := by decide +kernel
theorem d_R_triangles_125 : decode b_R_triangles 125 = .ok (.baload, 1) := by decide +kernel
theorem d_R_triangles_126 : decode b_R_triangles 126 = .ok (.ifCond .eq 25, 3) := by decide +kernel
theorem d_R_triangles_129 : decode b_R_triangles 129 = .ok (.aload_n 0, 1) := by decide +kernel
theorem d_R_triangles_130 : decode b_R_triangles 130 = .ok (.getfield 16, 3) := by decide +kernel
theorem d_R_triangles_133 : decode b_R_triangles 133 = .ok (.iload_n 3, 1) := by decide +kernel
theorem d_R_triangles_134 : decode b_R_triangles 134 = .ok (.bipush 8, 2) := by decide +kernel
theorem d_R_triangles_136 : decode b_R_triangles 136 = .ok (.iload 6, 2) := by decide +kernel
theorem d_R_triangles_138 : decode b_R_triangles 138 = .ok (.imul, 1) := by decide +kernel
theorem d_R_triangles_139 : decode b_R_triangles 139 = .ok (.iadd, 1) := by decide +kernel
theorem d_R_triangles_140 : decode b_R_triangles 140 = .ok (.iload 5, 2) := by decide +kernel
theorem d_R_triangles_142 : decode b_R_triangles 142 = .ok (.iadd, 1) := by decide +kernel
theorem d_R_triangles_143 : decode b_R_triangles 143 = .ok (.baload, 1) := by decide +kernel
theorem d_R_triangles_144 : decode b_R_triangles 144 = .ok (.ifCond .eq 7, 3) := by decide +kernel
theorem d_R_triangles_147 : decode b_R_triangles 147 = .ok (.iconst 1, 1) := by decide +kernel
theorem d_R_triangles_148 : decode b_R_triangles 148 = .ok (.goto 4, 3) := by decide +kernel
theorem d_R_triangles_151 : decode b_R_triangles 151 = .ok (.iconst 0, 1) := by decide +kernel
theorem d_R_triangles_152 : decode b_R_triangles 152 = .ok (.iadd, 1) := by decide +kernel
theorem d_R_triangles_153 : decode b_R_triangles 153 = .ok (.istore_n 2, 1) := by decide +kernel
theorem d_R_triangles_154 : decode b_R_triangles 154 = .ok (.iinc 6 1, 3) := by decide +kernel
theorem d_R_triangles_157 : decode b_R_triangles 157 = .ok (.goto (-76), 3) := by decide +kernel
theorem d_R_triangles_160 : decode b_R_triangles 160 = .ok (.iinc 5 1, 3) := by decide +kernel
theorem d_R_triangles_163 : decode b_R_triangles 163 = .ok (.goto (-99), 3) := by decide +kernel
theorem d_R_triangles_166 : decode b_R_triangles 166 = .ok (.iinc 4 1, 3) := by decide +kernel
theorem d_R_triangles_169 : decode b_R_triangles 169 = .ok (.goto (-122), 3) := by decide +kernel
theorem d_R_triangles_172 : decode b_R_triangles 172 = .ok (.iload_n 2, 1) := by decide +kernel
theorem d_R_triangles_173 : decode b_R_triangles 173 = .ok (.ireturn, 1) := by decide +kernel
theorem d_R_components_0 : decode b_R_components 0 = .ok (.aload_n 0, 1) := by decide +kernel
theorem d_R_components_1 : decode b_R_components 1 = .ok (.iload_n 1, 1) := by decide +kernel
theorem d_R_components_2 : decode b_R_components 2 = .ok (.invokestatic 38, 3) := by decide +kernel
theorem d_R_components_5 : decode b_R_components 5 = .ok (.ifCond .eq 10, 3) := by decide +kernel
theorem d_R_components_8 : decode b_R_components 8 = .ok (.iload_n 2, 1) := by decide +kernel
theorem d_R_components_9 : decode b_R_components 9 = .ok (.invokestatic 38, 3) := by decide +kernel
theorem d_R_components_12 : decode b_R_components 12 = .ok (.ifCond .ne 7, 3) := by decide +kernel
theorem d_R_components_15 : decode b_R_components 15 = .ok (.iconst 1, 1) := by decide +kernel
theorem d_R_components_16 : decode b_R_components 16 = .ok (.goto 16, 3) := by decide +kernel
theorem d_R_components_19 : decode b_R_components 19 = .ok (.aload_n 0, 1) := by decide +kernel
theorem d_R_components_20 : decode b_R_components 20 = .ok (.iload_n 2, 1) := by decide +kernel
theorem d_R_components_21 : decode b_R_components 21 = .ok (.invokevirtual 105, 3) := by decide +kernel
theorem d_R_components_24 : decode b_R_components 24 = .ok (.ifCond .ne 7, 3) := by decide +kernel
theorem d_R_components_27 : decode b_R_components 27 = .ok (.iconst 2, 1) := by decide +kernel
theorem d_R_components_28 : decode b_R_components 28 = .ok (.goto 4, 3) := by decide +kernel
theorem d_R_components_31 : decode b_R_components 31 = .ok (.iconst 0, 1) := by decide +kernel
theorem d_R_components_32 : decode b_R_components 32 = .ok (.putfield 30, 3) := by decide +kernel
theorem d_R_components_35 : decode b_R_components 35 = .ok (.aload_n 0, 1) := by decide +kernel
theorem d_R_components_36 : decode b_R_components 36 = .ok (.getfield 30, 3) := by decide +kernel
theorem d_R_components_39 : decode b_R_components 39 = .ok (.ifCond .le 5, 3) := by decide +kernel
theorem d_R_components_42 : decode b_R_components 42 = .ok (.iconst 0, 1) := by decide +kernel
theorem d_R_components_43 : decode b_R_components 43 = .ok (.ireturn, 1) := by decide +kernel
theorem d_R_components_44 : decode b_R_components 44 = .ok (.aload_n 0, 1) := by decide +kernel
theorem d_R_components_45 : decode b_R_components 45 = .ok (.iconst 1, 1) := by decide +kernel
theorem d_R_components_46 : decode b_R_components 46 = .ok (.aload_n 0, 1) := by decide +kernel
theorem d_R_components_47 : decode b_R_components 47 = .ok (.getfield 13, 3) := by decide +kernel
theorem d_R_components_50 : decode b_R_components 50 = .ok (.iload_n 2, 1) := by decide +kernel
theorem d_R_components_51 : decode b_R_components 51 = .ok (.iaload, 1) := by decide +kernel
theorem d_R_components_52 : decode b_R_components 52 = .ok (.invokevirtual 82, 3) := by decide +kernel
theorem d_R_components_55 : decode b_R_components 55 = .ok (.iconst 0, 1) := by decide +kernel
theorem d_R_components_56 : decode b_R_components 56 = .ok (.istore_n 3, 1) := by decide +kernel
theorem d_R_components_57 : decode b_R_components 57 = .ok (.iload_n 3, 1) := by decide +kernel
theorem d_R_components_58 : decode b_R_components 58 = .ok (.aload_n 0, 1) := by decide +kernel
theorem d_R_components_59 : decode b_R_components 59 = .ok (.getfield 65, 3) := by decide +kernel
theorem d_R_components_62 : decode b_R_components 62 = .ok (.if_icmp .ge 17, 3) := by decide +kernel
theorem d_R_components_65 : decode b_R_components 65 = .ok (.aload_n 0, 1) := by decide +kernel
theorem d_R_components_66 : decode b_R_components 66 = .ok (.iconst 0, 1) := by decide +kernel
theorem d_R_components_67 : decode b_R_components 67 = .ok (.iload_n 3, 1) := by decide +kernel
theorem d_R_components_68 : decode b_R_components 68 = .ok (.iload_n 3, 1) := by decide +kernel
theorem d_R_components_69 : decode b_R_components 69 = .ok (.i2l, 1) := by decide +kernel
theorem d_R_components_70 : decode b_R_components 70 = .ok (.invokevirtual 75, 3) := by decide +kernel
theorem d_R_components_73 : decode b_R_components 73 = .ok (.iinc 3 1, 3) := by decide +kernel
theorem d_R_components_76 : decode b_R_components 76 = .ok (.goto (-19), 3) := by decide +kernel
theorem d_R_components_79 : decode b_R_components 79 = .ok (.iconst 0, 1) := by decide +kernel
theorem d_R_components_80 : decode b_R_components 80 = .ok (.istore_n 3, 1) := by decide +kernel
theorem d_R_components_81 : decode b_R_components 81 = .ok (.iload_n 3, 1) := by decide +kernel
theorem d_R_components_82 : decode b_R_components 82 = .ok (.bipush 8, 2) := by decide +kernel
theorem d_R_components_84 : decode b_R_components 84 = .ok (.if_icmp .ge 121, 3) := by decide +kernel
theorem d_R_components_87 : decode b_R_components 87 = .ok (.iconst 0, 1) := by decide +kernel
theorem d_R_components_88 : decode b_R_components 88 = .ok (.istore 4, 2) := by decide +kernel
theorem d_R_components_90 : decode b_R_components 90 = .ok (.iload 4, 2) := by decide +kernel
theorem d_R_components_92 : decode b_R_components 92 = .ok (.aload_n 0, 1) := by decide +kernel
theorem d_R_components_93 : decode b_R_components 93 = .ok (.getfield 65, 3) := by decide +kernel
theorem d_R_components_96 : decode b_R_components 96 = .ok (.if_icmp .ge 103, 3) := by decide +kernel
theorem d_R_components_99 : decode b_R_components 99 = .ok (.iconst 0, 1) := by decide +kernel
theorem d_R_components_100 : decode b_R_components 100 = .ok (.istore 5, 2) := by decide +kernel
theorem d_R_components_102 : decode b_R_components 102 = .ok (.iload 5, 2) := by decide +kernel
theorem d_R_components_104 : decode b_R_components 104 = .ok (.aload_n 0, 1) := by decide +kernel
theorem d_R_components_105 : decode b_R_components 105 = .ok (.getfield 65, 3) := by decide +kernel
theorem d_R_components_108 : decode b_R_components 108 = .ok (.if_icmp .ge 85, 3) := by decide +kernel
theorem d_R_components_111 : decode b_R_components 111 = .ok (.aload_n 0, 1) := by decide +kernel
theorem d_R_components_112 : decode b_R_components 112 = .ok (.getfield 16, 3) := by decide +kernel
theorem d_R_components_115 : decode b_R_components 115 = .ok (.bipush 64, 2) := by decide +kernel
theorem d_R_components_117 : decode b_R_components 117 = .ok (.iload_n 2, 1) := by decide +kernel
theorem d_R_components_118 : decode b_R_components 118 = .ok (.imul, 1) := by decide +kernel
theorem d_R_components_119 : decode b_R_components 119 = .ok (.bipush 8, 2) := by decide +kernel
theorem d_R_components_121 : decode b_R_components 121 = .ok (.iload 4, 2) := by decide +kernel
theorem d_R_components_123 : decode b_R_components 123 = .ok (.imul, 1) := by decide +kernel
theorem d_R_components_124 : decode b_R_components 124 = .ok (.iadd, 1) := by decide +kernel
theorem d_R_components_125 : decode b_R_components 125 = .ok (.iload 5, 2) := by decide +kernel
theorem d_R_components_127 : decode b_R_components 127 = .ok (.iadd, 1) := by decide +kernel
theorem d_R_components_128 : decode b_R_components 128 = .ok (.baload, 1) := by decide +kernel
theorem d_R_components_129 : decode b_R_components 129 = .ok (.ifCond .eq 58, 3) := by decide +kernel
theorem d_R_components_132 : decode b_R_components 132 = .ok (.aload_n 0, 1) := by decide +kernel
theorem d_R_components_133 : decode b_R_components 133 = .ok (.getfield 27, 3) := by decide +kernel
theorem d_R_components_136 : decode b_R_components 136 = .ok (.iload 4, 2) := by decide +kernel
theorem d_R_components_138 : decode b_R_components 138 = .ok (.laload, 1) := by decide +kernel
theorem d_R_components_139 : decode b_R_components 139 = .ok (.aload_n 0, 1) := by decide +kernel
theorem d_R_components_140 : decode b_R_components 140 = .ok (.getfield 27, 3) := by decide +kernel
theorem d_R_components_143 : decode b_R_components 143 = .ok (.iload 5, 2) := by decide +kernel
theorem d_R_components_145 : decode b_R_components 145 = .ok (.laload, 1) := by decide +kernel
theorem d_R_components_146 : decode b_R_components 146 = .ok (.lcmp, 1) := by decide +kernel
theorem d_R_components_147 : decode b_R_components 147 = .ok (.ifCond .ge 13, 3) := by decide +kernel
theorem d_R_components_150 : decode b_R_components 150 = .ok (.aload_n 0, 1) := by decide +kernel
theorem d_R_components_151 : decode b_R_components 151 = .ok (.getfield 27, 3) := by decide +kernel
theorem d_R_components_154 : decode b_R_components 154 = .ok (.iload 4, 2) := by decide +kernel
theorem d_R_components_156 : decode b_R_components 156 = .ok (.laload, 1) := by decide +kernel
theorem d_R_components_157 : decode b_R_components 157 = .ok (.goto 10, 3) := by decide +kernel
theorem d_R_components_160 : decode b_R_components 160 = .ok (.aload_n 0, 1) := by decide +kernel
theorem d_R_components_161 : decode b_R_components 161 = .ok (.getfield 27, 3) := by decide +kernel
theorem d_R_components_164 : decode b_R_components 164 = .ok (.iload 5, 2) := by decide +kernel
theorem d_R_components_166 : decode b_R_components 166 = .ok (.laload, 1) := by decide +kernel
theorem d_R_components_167 : decode b_R_components 167 = .ok (.lstore 6, 2) := by decide +kernel
theorem d_R_components_169 : decode b_R_components 169 = .ok (.aload_n 0, 1) := by decide +kernel
theorem d_R_components_170 : decode b_R_components 170 = .ok (.getfield 27, 3) := by decide +kernel
theorem d_R_components_173 : decode b_R_components 173 = .ok (.iload 4, 2) := by decide +kernel
theorem d_R_components_175 : decode b_R_components 175 = .ok (.lload 6, 2) := by decide +kernel
theorem d_R_components_177 : decode b_R_components 177 = .ok (.lastore, 1) := by decide +kernel
theorem d_R_components_178 : decode b_R_components 178 = .ok (.aload_n 0, 1) := by decide +kernel
theorem d_R_components_179 : decode b_R_components 179 = .ok (.getfield 27, 3) := by decide +kernel
theorem d_R_components_182 : decode b_R_components 182 = .ok (.iload 5, 2) := by decide +kernel
theorem d_R_components_184 : decode b_R_components 184 = .ok (.lload 6, 2) := by decide +kernel
theorem d_R_components_186 : decode b_R_components 186 = .ok (.lastore, 1) := by decide +kernel
theorem d_R_components_187 : decode b_R_components 187 = .ok (.iinc 5 1, 3) := by decide +kernel
theorem d_R_components_190 : decode b_R_components 190 = .ok (.goto (-88), 3) := by decide +kernel
theorem d_R_components_193 : decode b_R_components 193 = .ok (.iinc 4 1, 3) := by decide +kernel
theorem d_R_components_196 : decode b_R_components 196 = .ok (.goto (-106), 3) := by decide +kernel
theorem d_R_components_199 : decode b_R_components 199 = .ok (.iinc 3 1, 3) := by decide +kernel
theorem d_R_components_202 : decode b_R_components 202 = .ok (.goto (-121), 3) := by decide +kernel
theorem d_R_components_205 : decode b_R_components 205 = .ok (.aload_n 0, 1) := by decide +kernel
theorem d_R_components_206 : decode b_R_components 206 = .ok (.iload_n 1, 1) := by decide +kernel
theorem d_R_components_207 : decode b_R_components 207 = .ok (.iconst (-1), 1) := by decide +kernel
theorem d_R_components_208 : decode b_R_components 208 = .ok (.invokevirtual 93, 3) := by decide +kernel
theorem d_R_components_211 : decode b_R_components 211 = .ok (.ireturn, 1) := by decide +kernel
end
section
theorem d_L_shape_0 : decode b_L_shape 0 = .ok (.aload_n 0, 1) := by decide +kernel
theorem d_L_shape_1 : decode b_L_shape 1 = .ok (.iload_n 1, 1) := by decide +kernel
theorem d_L_shape_2 : decode b_L_shape 2 = .ok (.iload_n 2, 1) := by decide +kernel
theorem d_L_shape_3 : decode b_L_shape 3 = .ok (.iload_n 3, 1) := by decide +kernel
theorem d_L_shape_4 : decode b_L_shape 4 = .ok (.invokevirtual 7, 3) := by decide +kernel
theorem d_L_shape_7 : decode b_L_shape 7 = .ok (.goto 7, 3) := by decide +kernel
theorem d_L_shape_10 : decode b_L_shape 10 = .ok (.astore 4, 2) := by decide +kernel
theorem d_L_shape_12 : decode b_L_shape 12 = .ok (.iconst 1, 1) := by decide +kernel
theorem d_L_shape_13 : decode b_L_shape 13 = .ok (.ireturn, 1) := by decide +kernel
theorem d_L_shape_14 : decode b_L_shape 14 = .ok (.iconst 0, 1) := by decide +kernel
theorem d_L_shape_15 : decode b_L_shape 15 = .ok (.ireturn, 1) := by decide +kernel
theorem d_L_put_0 : decode b_L_put 0 = .ok (.aload_n 0, 1) := by decide +kernel
theorem d_L_put_1 : decode b_L_put 1 = .ok (.iload_n 1, 1) := by decide +kernel
theorem d_L_put_2 : decode b_L_put 2 = .ok (.iload_n 2, 1) := by decide +kernel
theorem d_L_put_3 : decode b_L_put 3 = .ok (.iload_n 3, 1) := by decide +kernel
theorem d_L_put_4 : decode b_L_put 4 = .ok (.lload 4, 2) := by decide +kernel
theorem d_L_put_6 : decode b_L_put 6 = .ok (.invokevirtual 15, 3) := by decide +kernel
theorem d_L_put_9 : decode b_L_put 9 = .ok (.goto 7, 3) := by decide +kernel
theorem d_L_put_12 : decode b_L_put 12 = .ok (.astore 6, 2) := by decide +kernel
theorem d_L_put_14 : decode b_L_put 14 = .ok (.iconst 1, 1) := by decide +kernel
theorem d_L_put_15 : decode b_L_put 15 = .ok (.ireturn, 1) := by decide +kernel
theorem d_L_put_16 : decode b_L_put 16 = .ok (.iconst 0, 1) := by decide +kernel
theorem d_L_put_17 : decode b_L_put 17 = .ok (.ireturn, 1) := by decide +kernel
theorem d_L_drop_0 : decode b_L_drop 0 = .ok (.aload 4, 2) := by decide +kernel
theorem d_L_drop_2 : decode b_L_drop 2 = .ok (.iconst 0, 1) := by decide +kernel
theorem d_L_drop_3 : decode b_L_drop 3 = .ok (.aload_n 0, 1) := by decide +kernel
theorem d_L_drop_4 : decode b_L_drop 4 = .ok (.iload_n 1, 1) := by decide +kernel
theorem d_L_drop_5 : decode b_L_drop 5 = .ok (.iload_n 2, 1) := by decide +kernel
theorem d_L_drop_6 : decode b_L_drop 6 = .ok (.iload_n 3, 1) := by decide +kernel
theorem d_L_drop_7 : decode b_L_drop 7 = .ok (.invokevirtual 19, 3) := by decide +kernel
theorem d_L_drop_10 : decode b_L_drop 10 = .ok (.ifCond .eq 7, 3) := by decide +kernel
theorem d_L_drop_13 : decode b_L_drop 13 = .ok (.lconst 1, 1) := by decide +kernel
theorem d_L_drop_14 : decode b_L_drop 14 = .ok (.goto 4, 3) := by decide +kernel
theorem d_L_drop_17 : decode b_L_drop 17 = .ok (.lconst 0, 1) := by decide +kernel
theorem d_L_drop_18 : decode b_L_drop 18 = .ok (.lastore, 1) := by decide +kernel
theorem d_L_drop_19 : decode b_L_drop 19 = .ok (.goto 7, 3) := by decide +kernel
theorem d_L_drop_22 : decode b_L_drop 22 = .ok (.astore 5, 2) := by decide +kernel
theorem d_L_drop_24 : decode b_L_drop 24 = .ok (.iconst 1, 1) := by decide +kernel
theorem d_L_drop_25 : decode b_L_drop 25 = .ok (.ireturn, 1) := by decide +kernel
theorem d_L_drop_26 : decode b_L_drop 26 = .ok (.iconst 0, 1) := by decide +kernel
theorem d_L_drop_27 : decode b_L_drop 27 = .ok (.ireturn, 1) := by decide +kernel
theorem d_L_at_0 : decode b_L_at 0 = .ok (.aload 4, 2) := by decide +kernel
theorem d_L_at_2 : decode b_L_at 2 = .ok (.iconst 0, 1) := by decide +kernel
theorem d_L_at_3 : decode b_L_at 3 = .ok (.aload_n 0, 1) := by decide +kernel
theorem d_L_at_4 : decode b_L_at 4 = .ok (.iload_n 1, 1) := by decide +kernel
theorem d_L_at_5 : decode b_L_at 5 = .ok (.iload_n 2, 1) := by decide +kernel
theorem d_L_at_6 : decode b_L_at 6 = .ok (.iload_n 3, 1) := by decide +kernel
theorem d_L_at_7 : decode b_L_at 7 = .ok (.invokevirtual 23, 3) := by decide +kernel
theorem d_L_at_10 : decode b_L_at 10 = .ok (.lastore, 1) := by decide +kernel
theorem d_L_at_11 : decode b_L_at 11 = .ok (.goto 11, 3) := by decide +kernel
theorem d_L_at_14 : decode b_L_at 14 = .ok (.astore 5, 2) := by decide +kernel
theorem d_L_at_16 : decode b_L_at 16 = .ok (.iconst 1, 1) := by decide +kernel
theorem d_L_at_17 : decode b_L_at 17 = .ok (.ireturn, 1) := by decide +kernel
theorem d_L_at_18 : decode b_L_at 18 = .ok (.astore 5, 2) := by decide +kernel
theorem d_L_at_20 : decode b_L_at 20 = .ok (.iconst 2, 1) := by decide +kernel
theorem d_L_at_21 : decode b_L_at 21 = .ok (.ireturn, 1) := by decide +kernel
theorem d_L_at_22 : decode b_L_at 22 = .ok (.iconst 0, 1) := by decide +kernel
theorem d_L_at_23 : decode b_L_at 23 = .ok (.ireturn, 1) := by decide +kernel
theorem d_L_size_0 : decode b_L_size 0 = .ok (.aload_n 2, 1) := by decide +kernel
theorem d_L_size_1 : decode b_L_size 1 = .ok (.iconst 0, 1) := by decide +kernel
theorem d_L_size_2 : decode b_L_size 2 = .ok (.aload_n 0, 1) := by decide +kernel
theorem d_L_size_3 : decode b_L_size 3 = .ok (.iload_n 1, 1) := by decide +kernel
theorem d_L_size_4 : decode b_L_size 4 = .ok (.invokevirtual 29, 3) := by decide +kernel
theorem d_L_size_7 : decode b_L_size 7 = .ok (.i2l, 1) := by decide +kernel
theorem d_L_size_8 : decode b_L_size 8 = .ok (.lastore, 1) := by decide +kernel
theorem d_L_size_9 : decode b_L_size 9 = .ok (.goto 6, 3) := by decide +kernel
theorem d_L_size_12 : decode b_L_size 12 = .ok (.astore_n 3, 1) := by decide +kernel
theorem d_L_size_13 : decode b_L_size 13 = .ok (.iconst 1, 1) := by decide +kernel
theorem d_L_size_14 : decode b_L_size 14 = .ok (.ireturn, 1) := by decide +kernel
theorem d_L_size_15 : decode b_L_size 15 = .ok (.iconst 0, 1) := by decide +kernel
theorem d_L_size_16 : decode b_L_size 16 = .ok (.ireturn, 1) := by decide +kernel
theorem d_L_multiply_0 : decode b_L_multiply 0 = .ok (.aload 7, 2) := by decide +kernel
theorem d_L_multiply_2 : decode b_L_multiply 2 = .ok (.iconst 0, 1) := by decide +kernel
theorem d_L_multiply_3 : decode b_L_multiply 3 = .ok (.aload_n 0, 1) := by decide +kernel
theorem d_L_multiply_4 : decode b_L_multiply 4 = .ok (.iload_n 1, 1) := by decide +kernel
theorem d_L_multiply_5 : decode b_L_multiply 5 = .ok (.iload_n 2, 1) := by decide +kernel
theorem d_L_multiply_6 : decode b_L_multiply 6 = .ok (.iload_n 3, 1) := by decide +kernel
theorem d_L_multiply_7 : decode b_L_multiply 7 = .ok (.iload 4, 2) := by decide +kernel
theorem d_L_multiply_9 : decode b_L_multiply 9 = .ok (.iload 5, 2) := by decide +kernel
theorem d_L_multiply_11 : decode b_L_multiply 11 = .ok (.iload 6, 2) := by decide +kernel
theorem d_L_multiply_13 : decode b_L_multiply 13 = .ok (.invokevirtual 33, 3) := by decide +kernel
theorem d_L_multiply_16 : decode b_L_multiply 16 = .ok (.i2l, 1) := by decide +kernel
theorem d_L_multiply_17 : decode b_L_multiply 17 = .ok (.lastore, 1) := by decide +kernel
theorem d_L_multiply_18 : decode b_L_multiply 18 = .ok (.goto 15, 3) := by decide +kernel
theorem d_L_multiply_21 : decode b_L_multiply 21 = .ok (.astore 8, 2) := by decide +kernel
theorem d_L_multiply_23 : decode b_L_multiply 23 = .ok (.iconst 1, 1) := by decide +kernel
theorem d_L_multiply_24 : decode b_L_multiply 24 = .ok (.ireturn, 1) := by decide +kernel
theorem d_L_multiply_25 : decode b_L_multiply 25 = .ok (.astore 8, 2) := by decide +kernel
theorem d_L_multiply_27 : decode b_L_multiply 27 = .ok (.iconst 2, 1) := by decide +kernel
theorem d_L_multiply_28 : decode b_L_multiply 28 = .ok (.ireturn, 1) := by decide +kernel
theorem d_L_multiply_29 : decode b_L_multiply 29 = .ok (.astore 8, 2) := by decide +kernel
theorem d_L_multiply_31 : decode b_L_multiply 31 = .ok (.iconst 3, 1) := by decide +kernel
theorem d_L_multiply_32 : decode b_L_multiply 32 = .ok (.ireturn, 1) := by decide +kernel
theorem d_L_multiply_33 : decode b_L_multiply 33 = .ok (.iconst 0, 1) := by decide +kernel
theorem d_L_multiply_34 : decode b_L_multiply 34 = .ok (.ireturn, 1) := by decide +kernel
theorem d_L_add_0 : decode b_L_add 0 = .ok (.aload 5, 2) := by decide +kernel
theorem d_L_add_2 : decode b_L_add 2 = .ok (.iconst 0, 1) := by decide +kernel
theorem d_L_add_3 : decode b_L_add 3 = .ok (.aload_n 0, 1) := by decide +kernel
theorem d_L_add_4 : decode b_L_add 4 = .ok (.iload_n 1, 1) := by decide +kernel
theorem d_L_add_5 : decode b_L_add 5 = .ok (.iload_n 2, 1) := by decide +kernel
theorem d_L_add_6 : decode b_L_add 6 = .ok (.iload_n 3, 1) := by decide +kernel
theorem d_L_add_7 : decode b_L_add 7 = .ok (.iload 4, 2) := by decide +kernel
theorem d_L_add_9 : decode b_L_add 9 = .ok (.invokevirtual 41, 3) := by decide +kernel
theorem d_L_add_12 : decode b_L_add 12 = .ok (.i2l, 1) := by decide +kernel
theorem d_L_add_13 : decode b_L_add 13 = .ok (.lastore, 1) := by decide +kernel
theorem d_L_add_14 : decode b_L_add 14 = .ok (.goto 15, 3) := by decide +kernel
theorem d_L_add_17 : decode b_L_add 17 = .ok (.astore 6, 2) := by decide +kernel
theorem d_L_add_19 : decode b_L_add 19 = .ok (.iconst 1, 1) := by decide +kernel
theorem d_L_add_20 : decode b_L_add 20 = .ok (.ireturn, 1) := by decide +kernel
theorem d_L_add_21 : decode b_L_add 21 = .ok (.astore 6, 2) := by decide +kernel
theorem d_L_add_23 : decode b_L_add 23 = .ok (.iconst 2, 1) := by decide +kernel
theorem d_L_add_24 : decode b_L_add 24 = .ok (.ireturn, 1) := by decide +kernel
theorem d_L_add_25 : decode b_L_add 25 = .ok (.astore 6, 2) := by decide +kernel
theorem d_L_add_27 : decode b_L_add 27 = .ok (.iconst 3, 1) := by decide +kernel
theorem d_L_add_28 : decode b_L_add 28 = .ok (.ireturn, 1) := by decide +kernel
theorem d_L_add_29 : decode b_L_add 29 = .ok (.iconst 0, 1) := by decide +kernel
theorem d_L_add_30 : decode b_L_add 30 = .ok (.ireturn, 1) := by decide +kernel
theorem d_L_each_0 : decode b_L_each 0 = .ok (.aload 5, 2) := by decide +kernel
theorem d_L_each_2 : decode b_L_each 2 = .ok (.iconst 0, 1) := by decide +kernel
theorem d_L_each_3 : decode b_L_each 3 = .ok (.aload_n 0, 1) := by decide +kernel
theorem d_L_each_4 : decode b_L_each 4 = .ok (.iload_n 1, 1) := by decide +kernel
theorem d_L_each_5 : decode b_L_each 5 = .ok (.iload_n 2, 1) := by decide +kernel
theorem d_L_each_6 : decode b_L_each 6 = .ok (.iload_n 3, 1) := by decide +kernel
theorem d_L_each_7 : decode b_L_each 7 = .ok (.iload 4, 2) := by decide +kernel
theorem d_L_each_9 : decode b_L_each 9 = .ok (.invokevirtual 45, 3) := by decide +kernel
theorem d_L_each_12 : decode b_L_each 12 = .ok (.i2l, 1) := by decide +kernel
theorem d_L_each_13 : decode b_L_each 13 = .ok (.lastore, 1) := by decide +kernel
theorem d_L_each_14 : decode b_L_each 14 = .ok (.goto 15, 3) := by decide +kernel
theorem d_L_each_17 : decode b_L_each 17 = .ok (.astore 6, 2) := by decide +kernel
theorem d_L_each_19 : decode b_L_each 19 = .ok (.iconst 1, 1) := by decide +kernel
theorem d_L_each_20 : decode b_L_each 20 = .ok (.ireturn, 1) := by decide +kernel
theorem d_L_each_21 : decode b_L_each 21 = .ok (.astore 6, 2) := by decide +kernel
theorem d_L_each_23 : decode b_L_each 23 = .ok (.iconst 2, 1) := by decide +kernel
theorem d_L_each_24 : decode b_L_each 24 = .ok (.ireturn, 1) := by decide +kernel
theorem d_L_each_25 : decode b_L_each 25 = .ok (.astore 6, 2) := by decide +kernel
theorem d_L_each_27 : decode b_L_each 27 = .ok (.iconst 3, 1) := by decide +kernel
theorem d_L_each_28 : decode b_L_each 28 = .ok (.ireturn, 1) := by decide +kernel
theorem d_L_each_29 : decode b_L_each 29 = .ok (.iconst 0, 1) := by decide +kernel
theorem d_L_each_30 : decode b_L_each 30 = .ok (.ireturn, 1) := by decide +kernel
theorem d_L_transpose_0 : decode b_L_transpose 0 = .ok (.aload_n 3, 1) := by decide +kernel
theorem d_L_transpose_1 : decode b_L_transpose 1 = .ok (.iconst 0, 1) := by decide +kernel
theorem d_L_transpose_2 : decode b_L_transpose 2 = .ok (.aload_n 0, 1) := by decide +kernel
theorem d_L_transpose_3 : decode b_L_transpose 3 = .ok (.iload_n 1, 1) := by decide +kernel
theorem d_L_transpose_4 : decode b_L_transpose 4 = .ok (.iload_n 2, 1) := by decide +kernel
theorem d_L_transpose_5 : decode b_L_transpose 5 = .ok (.invokevirtual 48, 3) := by decide +kernel
theorem d_L_transpose_8 : decode b_L_transpose 8 = .ok (.i2l, 1) := by decide +kernel
theorem d_L_transpose_9 : decode b_L_transpose 9 = .ok (.lastore, 1) := by decide +kernel
theorem d_L_transpose_10 : decode b_L_transpose 10 = .ok (.goto 7, 3) := by decide +kernel
theorem d_L_transpose_13 : decode b_L_transpose 13 = .ok (.astore 4, 2) := by decide +kernel
theorem d_L_transpose_15 : decode b_L_transpose 15 = .ok (.iconst 1, 1) := by decide +kernel
theorem d_L_transpose_16 : decode b_L_transpose 16 = .ok (.ireturn, 1) := by decide +kernel
theorem d_L_transpose_17 : decode b_L_transpose 17 = .ok (.iconst 0, 1) := by decide +kernel
theorem d_L_transpose_18 : decode b_L_transpose 18 = .ok (.ireturn, 1) := by decide +kernel
theorem d_L_select_0 : decode b_L_select 0 = .ok (.aload 6, 2) := by decide +kernel
theorem d_L_select_2 : decode b_L_select 2 = .ok (.iconst 0, 1) := by decide +kernel
theorem d_L_select_3 : decode b_L_select 3 = .ok (.aload_n 0, 1) := by decide +kernel
theorem d_L_select_4 : decode b_L_select 4 = .ok (.iload_n 1, 1) := by decide +kernel
theorem d_L_select_5 : decode b_L_select 5 = .ok (.iload_n 2, 1) := by decide +kernel
theorem d_L_select_6 : decode b_L_select 6 = .ok (.iload_n 3, 1) := by decide +kernel
theorem d_L_select_7 : decode b_L_select 7 = .ok (.lload 4, 2) := by decide +kernel
theorem d_L_select_9 : decode b_L_select 9 = .ok (.invokevirtual 52, 3) := by decide +kernel
theorem d_L_select_12 : decode b_L_select 12 = .ok (.i2l, 1) := by decide +kernel
theorem d_L_select_13 : decode b_L_select 13 = .ok (.lastore, 1) := by decide +kernel
theorem d_L_select_14 : decode b_L_select 14 = .ok (.goto 7, 3) := by decide +kernel
theorem d_L_select_17 : decode b_L_select 17 = .ok (.astore 7, 2) := by decide +kernel
theorem d_L_select_19 : decode b_L_select 19 = .ok (.iconst 1, 1) := by decide +kernel
theorem d_L_select_20 : decode b_L_select 20 = .ok (.ireturn, 1) := by decide +kernel
theorem d_L_select_21 : decode b_L_select 21 = .ok (.iconst 0, 1) := by decide +kernel
theorem d_L_select_22 : decode b_L_select 22 = .ok (.ireturn, 1) := by decide +kernel
theorem d_L_reduce_0 : decode b_L_reduce 0 = .ok (.aload_n 3, 1) := by decide +kernel
theorem d_L_reduce_1 : decode b_L_reduce 1 = .ok (.iconst 0, 1) := by decide +kernel
theorem d_L_reduce_2 : decode b_L_reduce 2 = .ok (.aload_n 0, 1) := by decide +kernel
theorem d_L_reduce_3 : decode b_L_reduce 3 = .ok (.iload_n 1, 1) := by decide +kernel
theorem d_L_reduce_4 : decode b_L_reduce 4 = .ok (.iload_n 2, 1) := by decide +kernel
theorem d_L_reduce_5 : decode b_L_reduce 5 = .ok (.invokevirtual 56, 3) := by decide +kernel
theorem d_L_reduce_8 : decode b_L_reduce 8 = .ok (.lastore, 1) := by decide +kernel
theorem d_L_reduce_9 : decode b_L_reduce 9 = .ok (.goto 15, 3) := by decide +kernel
theorem d_L_reduce_12 : decode b_L_reduce 12 = .ok (.astore 4, 2) := by decide +kernel
theorem d_L_reduce_14 : decode b_L_reduce 14 = .ok (.iconst 1, 1) := by decide +kernel
theorem d_L_reduce_15 : decode b_L_reduce 15 = .ok (.ireturn, 1) := by decide +kernel
theorem d_L_reduce_16 : decode b_L_reduce 16 = .ok (.astore 4, 2) := by decide +kernel
theorem d_L_reduce_18 : decode b_L_reduce 18 = .ok (.iconst 2, 1) := by decide +kernel
theorem d_L_reduce_19 : decode b_L_reduce 19 = .ok (.ireturn, 1) := by decide +kernel
theorem d_L_reduce_20 : decode b_L_reduce 20 = .ok (.astore 4, 2) := by decide +kernel
theorem d_L_reduce_22 : decode b_L_reduce 22 = .ok (.iconst 3, 1) := by decide +kernel
theorem d_L_reduce_23 : decode b_L_reduce 23 = .ok (.ireturn, 1) := by decide +kernel
theorem d_L_reduce_24 : decode b_L_reduce 24 = .ok (.iconst 0, 1) := by decide +kernel
theorem d_L_reduce_25 : decode b_L_reduce 25 = .ok (.ireturn, 1) := by decide +kernel
theorem d_L_levels_0 : decode b_L_levels 0 = .ok (.aload 4, 2) := by decide +kernel
theorem d_L_levels_2 : decode b_L_levels 2 = .ok (.iconst 0, 1) := by decide +kernel
theorem d_L_levels_3 : decode b_L_levels 3 = .ok (.aload_n 0, 1) := by decide +kernel
theorem d_L_levels_4 : decode b_L_levels 4 = .ok (.iload_n 1, 1) := by decide +kernel
theorem d_L_levels_5 : decode b_L_levels 5 = .ok (.iload_n 2, 1) := by decide +kernel
theorem d_L_levels_6 : decode b_L_levels 6 = .ok (.iload_n 3, 1) := by decide +kernel
theorem d_L_levels_7 : decode b_L_levels 7 = .ok (.invokevirtual 60, 3) := by decide +kernel
theorem d_L_levels_10 : decode b_L_levels 10 = .ok (.i2l, 1) := by decide +kernel
theorem d_L_levels_11 : decode b_L_levels 11 = .ok (.lastore, 1) := by decide +kernel
theorem d_L_levels_12 : decode b_L_levels 12 = .ok (.goto 15, 3) := by decide +kernel
theorem d_L_levels_15 : decode b_L_levels 15 = .ok (.astore 5, 2) := by decide +kernel
theorem d_L_levels_17 : decode b_L_levels 17 = .ok (.iconst 1, 1) := by decide +kernel
theorem d_L_levels_18 : decode b_L_levels 18 = .ok (.ireturn, 1) := by decide +kernel
theorem d_L_levels_19 : decode b_L_levels 19 = .ok (.astore 5, 2) := by decide +kernel
theorem d_L_levels_21 : decode b_L_levels 21 = .ok (.iconst 2, 1) := by decide +kernel
theorem d_L_levels_22 : decode b_L_levels 22 = .ok (.ireturn, 1) := by decide +kernel
theorem d_L_levels_23 : decode b_L_levels 23 = .ok (.astore 5, 2) := by decide +kernel
theorem d_L_levels_25 : decode b_L_levels 25 = .ok (.iconst 3, 1) := by decide +kernel
theorem d_L_levels_26 : decode b_L_levels 26 = .ok (.ireturn, 1) := by decide +kernel
theorem d_L_levels_27 : decode b_L_levels 27 = .ok (.iconst 0, 1) := by decide +kernel
theorem d_L_levels_28 : decode b_L_levels 28 = .ok (.ireturn, 1) := by decide +kernel
theorem d_L_paths_0 : decode b_L_paths 0 = .ok (.aload_n 3, 1) := by decide +kernel
theorem d_L_paths_1 : decode b_L_paths 1 = .ok (.iconst 0, 1) := by decide +kernel
theorem d_L_paths_2 : decode b_L_paths 2 = .ok (.aload_n 0, 1) := by decide +kernel
theorem d_L_paths_3 : decode b_L_paths 3 = .ok (.iload_n 1, 1) := by decide +kernel
theorem d_L_paths_4 : decode b_L_paths 4 = .ok (.iload_n 2, 1) := by decide +kernel
theorem d_L_paths_5 : decode b_L_paths 5 = .ok (.invokevirtual 64, 3) := by decide +kernel
theorem d_L_paths_8 : decode b_L_paths 8 = .ok (.i2l, 1) := by decide +kernel
theorem d_L_paths_9 : decode b_L_paths 9 = .ok (.lastore, 1) := by decide +kernel
theorem d_L_paths_10 : decode b_L_paths 10 = .ok (.goto 19, 3) := by decide +kernel
theorem d_L_paths_13 : decode b_L_paths 13 = .ok (.astore 4, 2) := by decide +kernel
theorem d_L_paths_15 : decode b_L_paths 15 = .ok (.iconst 1, 1) := by decide +kernel
theorem d_L_paths_16 : decode b_L_paths 16 = .ok (.ireturn, 1) := by decide +kernel
theorem d_L_paths_17 : decode b_L_paths 17 = .ok (.astore 4, 2) := by decide +kernel
theorem d_L_paths_19 : decode b_L_paths 19 = .ok (.iconst 2, 1) := by decide +kernel
theorem d_L_paths_20 : decode b_L_paths 20 = .ok (.ireturn, 1) := by decide +kernel
theorem d_L_paths_21 : decode b_L_paths 21 = .ok (.astore 4, 2) := by decide +kernel
theorem d_L_paths_23 : decode b_L_paths 23 = .ok (.iconst 3, 1) := by decide +kernel
theorem d_L_paths_24 : decode b_L_paths 24 = .ok (.ireturn, 1) := by decide +kernel
theorem d_L_paths_25 : decode b_L_paths 25 = .ok (.astore 4, 2) := by decide +kernel
theorem d_L_paths_27 : decode b_L_paths 27 = .ok (.iconst 4, 1) := by decide +kernel
theorem d_L_paths_28 : decode b_L_paths 28 = .ok (.ireturn, 1) := by decide +kernel
theorem d_L_paths_29 : decode b_L_paths 29 = .ok (.iconst 0, 1) := by decide +kernel
theorem d_L_paths_30 : decode b_L_paths 30 = .ok (.ireturn, 1) := by decide +kernel
theorem d_L_triangles_0 : decode b_L_triangles 0 = .ok (.aload_n 2, 1) := by decide +kernel
theorem d_L_triangles_1 : decode b_L_triangles 1 = .ok (.iconst 0, 1) := by decide +kernel
theorem d_L_triangles_2 : decode b_L_triangles 2 = .ok (.aload_n 0, 1) := by decide +kernel
theorem d_L_triangles_3 : decode b_L_triangles 3 = .ok (.iload_n 1, 1) := by decide +kernel
theorem d_L_triangles_4 : decode b_L_triangles 4 = .ok (.invokevirtual 67, 3) := by decide +kernel
theorem d_L_triangles_7 : decode b_L_triangles 7 = .ok (.i2l, 1) := by decide +kernel
theorem d_L_triangles_8 : decode b_L_triangles 8 = .ok (.lastore, 1) := by decide +kernel
theorem d_L_triangles_9 : decode b_L_triangles 9 = .ok (.goto 9, 3) := by decide +kernel
theorem d_L_triangles_12 : decode b_L_triangles 12 = .ok (.astore_n 3, 1) := by decide +kernel
theorem d_L_triangles_13 : decode b_L_triangles 13 = .ok (.iconst 1, 1) := by decide +kernel
theorem d_L_triangles_14 : decode b_L_triangles 14 = .ok (.ireturn, 1) := by decide +kernel
theorem d_L_triangles_15 : decode b_L_triangles 15 = .ok (.astore_n 3, 1) := by decide +kernel
theorem d_L_triangles_16 : decode b_L_triangles 16 = .ok (.iconst 2, 1) := by decide +kernel
theorem d_L_triangles_17 : decode b_L_triangles 17 = .ok (.ireturn, 1) := by decide +kernel
theorem d_L_triangles_18 : decode b_L_triangles 18 = .ok (.iconst 0, 1) := by decide +kernel
theorem d_L_triangles_19 : decode b_L_triangles 19 = .ok (.ireturn, 1) := by decide +kernel
theorem d_L_components_0 : decode b_L_components 0 = .ok (.aload_n 3, 1) := by decide +kernel
theorem d_L_components_1 : decode b_L_components 1 = .ok (.iconst 0, 1) := by decide +kernel
theorem d_L_components_2 : decode b_L_components 2 = .ok (.aload_n 0, 1) := by decide +kernel
theorem d_L_components_3 : decode b_L_components 3 = .ok (.iload_n 1, 1) := by decide +kernel
theorem d_L_components_4 : decode b_L_components 4 = .ok (.iload_n 2, 1) := by decide +kernel
theorem d_L_components_5 : decode b_L_components 5 = .ok (.invokevirtual 70, 3) := by decide +kernel
theorem d_L_components_8 : decode b_L_components 8 = .ok (.i2l, 1) := by decide +kernel
theorem d_L_components_9 : decode b_L_components 9 = .ok (.lastore, 1) := by decide +kernel
theorem d_L_components_10 : decode b_L_components 10 = .ok (.goto 11, 3) := by decide +kernel
theorem d_L_components_13 : decode b_L_components 13 = .ok (.astore 4, 2) := by decide +kernel
theorem d_L_components_15 : decode b_L_components 15 = .ok (.iconst 1, 1) := by decide +kernel
theorem d_L_components_16 : decode b_L_components 16 = .ok (.ireturn, 1) := by decide +kernel
theorem d_L_components_17 : decode b_L_components 17 = .ok (.astore 4, 2) := by decide +kernel
theorem d_L_components_19 : decode b_L_components 19 = .ok (.iconst 2, 1) := by decide +kernel
theorem d_L_components_20 : decode b_L_components 20 = .ok (.ireturn, 1) := by decide +kernel
theorem d_L_components_21 : decode b_L_components 21 = .ok (.iconst 0, 1) := by decide +kernel
theorem d_L_components_22 : decode b_L_components 22 = .ok (.ireturn, 1) := by decide +kernel
theorem d_L_law_0 : decode code 0 = .ok (.new 8, 3) := by decide +kernel
theorem d_L_law_3 : decode code 3 = .ok (.dup, 1) := by decide +kernel
theorem d_L_law_4 : decode code 4 = .ok (.invokespecial 73, 3) := by decide +kernel
theorem d_L_law_7 : decode code 7 = .ok (.astore_n 1, 1) := by decide +kernel
theorem d_L_law_8 : decode code 8 = .ok (.new 74, 3) := by decide +kernel
theorem d_L_law_11 : decode code 11 = .ok (.dup, 1) := by decide +kernel
theorem d_L_law_12 : decode code 12 = .ok (.invokespecial 76, 3) := by decide +kernel
theorem d_L_law_15 : decode code 15 = .ok (.astore_n 2, 1) := by decide +kernel
theorem d_L_law_16 : decode code 16 = .ok (.iconst 1, 1) := by decide +kernel
theorem d_L_law_17 : decode code 17 = .ok (.newarray .long, 2) := by decide +kernel
theorem d_L_law_19 : decode code 19 = .ok (.astore_n 3, 1) := by decide +kernel
theorem d_L_law_20 : decode code 20 = .ok (.iconst 0, 1) := by decide +kernel
theorem d_L_law_21 : decode code 21 = .ok (.istore 4, 2) := by decide +kernel
theorem d_L_law_23 : decode code 23 = .ok (.iload 4, 2) := by decide +kernel
theorem d_L_law_25 : decode code 25 = .ok (.aload_n 0, 1) := by decide +kernel
theorem d_L_law_26 : decode code 26 = .ok (.arraylength, 1) := by decide +kernel
theorem d_L_law_27 : decode code 27 = .ok (.bipush 7, 2) := by decide +kernel
theorem d_L_law_29 : decode code 29 = .ok (.isub, 1) := by decide +kernel
theorem d_L_law_30 : decode code 30 = .ok (.if_icmp .gt 1311, 3) := by decide +kernel
theorem d_L_law_33 : decode code 33 = .ok (.aload_n 0, 1) := by decide +kernel
theorem d_L_law_34 : decode code 34 = .ok (.iload 4, 2) := by decide +kernel
theorem d_L_law_36 : decode code 36 = .ok (.iaload, 1) := by decide +kernel
theorem d_L_law_37 : decode code 37 = .ok (.bipush 15, 2) := by decide +kernel
theorem d_L_law_39 : decode code 39 = .ok (.iand, 1) := by decide +kernel
theorem d_L_law_40 : decode code 40 = .ok (.tableswitch 1295 0 14 #[76, 136, 240, 327, 406, 462, 580, 672, 764, 832, 956, 1023, 1103, 1171, 1227], 76) := by decide +kernel
theorem d_L_law_116 : decode code 116 = .ok (.aload_n 1, 1) := by decide +kernel
theorem d_L_law_117 : decode code 117 = .ok (.aload_n 0, 1) := by decide +kernel
theorem d_L_law_118 : decode code 118 = .ok (.iload 4, 2) := by decide +kernel
theorem d_L_law_120 : decode code 120 = .ok (.iconst 1, 1) := by decide +kernel
theorem d_L_law_121 : decode code 121 = .ok (.iadd, 1) := by decide +kernel
theorem d_L_law_122 : decode code 122 = .ok (.iaload, 1) := by decide +kernel
theorem d_L_law_123 : decode code 123 = .ok (.aload_n 0, 1) := by decide +kernel
theorem d_L_law_124 : decode code 124 = .ok (.iload 4, 2) := by decide +kernel
theorem d_L_law_126 : decode code 126 = .ok (.iconst 2, 1) := by decide +kernel
theorem d_L_law_127 : decode code 127 = .ok (.iadd, 1) := by decide +kernel
theorem d_L_law_128 : decode code 128 = .ok (.iaload, 1) := by decide +kernel
theorem d_L_law_129 : decode code 129 = .ok (.aload_n 0, 1) := by decide +kernel
theorem d_L_law_130 : decode code 130 = .ok (.iload 4, 2) := by decide +kernel
theorem d_L_law_132 : decode code 132 = .ok (.iconst 3, 1) := by decide +kernel
theorem d_L_law_133 : decode code 133 = .ok (.iadd, 1) := by decide +kernel
theorem d_L_law_134 : decode code 134 = .ok (.iaload, 1) := by decide +kernel
theorem d_L_law_135 : decode code 135 = .ok (.invokestatic 77, 3) := by decide +kernel
theorem d_L_law_138 : decode code 138 = .ok (.istore 5, 2) := by decide +kernel
theorem d_L_law_140 : decode code 140 = .ok (.aload_n 2, 1) := by decide +kernel
theorem d_L_law_141 : decode code 141 = .ok (.aload_n 0, 1) := by decide +kernel
theorem d_L_law_142 : decode code 142 = .ok (.iload 4, 2) := by decide +kernel
theorem d_L_law_144 : decode code 144 = .ok (.iconst 1, 1) := by decide +kernel
theorem d_L_law_145 : decode code 145 = .ok (.iadd, 1) := by decide +kernel
theorem d_L_law_146 : decode code 146 = .ok (.iaload, 1) := by decide +kernel
theorem d_L_law_147 : decode code 147 = .ok (.aload_n 0, 1) := by decide +kernel
theorem d_L_law_148 : decode code 148 = .ok (.iload 4, 2) := by decide +kernel
theorem d_L_law_150 : decode code 150 = .ok (.iconst 2, 1) := by decide +kernel
theorem d_L_law_151 : decode code 151 = .ok (.iadd, 1) := by decide +kernel
theorem d_L_law_152 : decode code 152 = .ok (.iaload, 1) := by decide +kernel
theorem d_L_law_153 : decode code 153 = .ok (.aload_n 0, 1) := by decide +kernel
theorem d_L_law_154 : decode code 154 = .ok (.iload 4, 2) := by decide +kernel
theorem d_L_law_156 : decode code 156 = .ok (.iconst 3, 1) := by decide +kernel
theorem d_L_law_157 : decode code 157 = .ok (.iadd, 1) := by decide +kernel
theorem d_L_law_158 : decode code 158 = .ok (.iaload, 1) := by decide +kernel
theorem d_L_law_159 : decode code 159 = .ok (.invokevirtual 82, 3) := by decide +kernel
theorem d_L_law_162 : decode code 162 = .ok (.aload_n 2, 1) := by decide +kernel
theorem d_L_law_163 : decode code 163 = .ok (.invokevirtual 83, 3) := by decide +kernel
theorem d_L_law_166 : decode code 166 = .ok (.iload 5, 2) := by decide +kernel
theorem d_L_law_168 : decode code 168 = .ok (.if_icmp .eq 5, 3) := by decide +kernel
theorem d_L_law_171 : decode code 171 = .ok (.iconst 0, 1) := by decide +kernel
theorem d_L_law_172 : decode code 172 = .ok (.ireturn, 1) := by decide +kernel
theorem d_L_law_173 : decode code 173 = .ok (.goto 1162, 3) := by decide +kernel
theorem d_L_law_176 : decode code 176 = .ok (.aload_n 1, 1) := by decide +kernel
theorem d_L_law_177 : decode code 177 = .ok (.aload_n 0, 1) := by decide +kernel
theorem d_L_law_178 : decode code 178 = .ok (.iload 4, 2) := by decide +kernel
theorem d_L_law_180 : decode code 180 = .ok (.iconst 1, 1) := by decide +kernel
theorem d_L_law_181 : decode code 181 = .ok (.iadd, 1) := by decide +kernel
theorem d_L_law_182 : decode code 182 = .ok (.iaload, 1) := by decide +kernel
theorem d_L_law_183 : decode code 183 = .ok (.aload_n 0, 1) := by decide +kernel
theorem d_L_law_184 : decode code 184 = .ok (.iload 4, 2) := by decide +kernel
theorem d_L_law_186 : decode code 186 = .ok (.iconst 2, 1) := by decide +kernel
theorem d_L_law_187 : decode code 187 = .ok (.iadd, 1) := by decide +kernel
theorem d_L_law_188 : decode code 188 = .ok (.iaload, 1) := by decide +kernel
theorem d_L_law_189 : decode code 189 = .ok (.aload_n 0, 1) := by decide +kernel
theorem d_L_law_190 : decode code 190 = .ok (.iload 4, 2) := by decide +kernel
theorem d_L_law_192 : decode code 192 = .ok (.iconst 3, 1) := by decide +kernel
theorem d_L_law_193 : decode code 193 = .ok (.iadd, 1) := by decide +kernel
theorem d_L_law_194 : decode code 194 = .ok (.iaload, 1) := by decide +kernel
theorem d_L_law_195 : decode code 195 = .ok (.aload_n 0, 1) := by decide +kernel
theorem d_L_law_196 : decode code 196 = .ok (.iload 4, 2) := by decide +kernel
theorem d_L_law_198 : decode code 198 = .ok (.iconst 4, 1) := by decide +kernel
theorem d_L_law_199 : decode code 199 = .ok (.iadd, 1) := by decide +kernel
theorem d_L_law_200 : decode code 200 = .ok (.iaload, 1) := by decide +kernel
theorem d_L_law_201 : decode code 201 = .ok (.i2l, 1) := by decide +kernel
theorem d_L_law_202 : decode code 202 = .ok (.bipush 32, 2) := by decide +kernel
theorem d_L_law_204 : decode code 204 = .ok (.lshl, 1) := by decide +kernel
theorem d_L_law_205 : decode code 205 = .ok (.aload_n 0, 1) := by decide +kernel
theorem d_L_law_206 : decode code 206 = .ok (.iload 4, 2) := by decide +kernel
theorem d_L_law_208 : decode code 208 = .ok (.iconst 5, 1) := by decide +kernel
theorem d_L_law_209 : decode code 209 = .ok (.iadd, 1) := by decide +kernel
theorem d_L_law_210 : decode code 210 = .ok (.iaload, 1) := by decide +kernel
theorem d_L_law_211 : decode code 211 = .ok (.i2l, 1) := by decide +kernel
theorem d_L_law_212 : decode code 212 = .ok (.ldc2_w 87, 3) := by decide +kernel
theorem d_L_law_215 : decode code 215 = .ok (.land, 1) := by decide +kernel
theorem d_L_law_216 : decode code 216 = .ok (.lor, 1) := by decide +kernel
theorem d_L_law_217 : decode code 217 = .ok (.invokestatic 89, 3) := by decide +kernel
theorem d_L_law_220 : decode code 220 = .ok (.istore 5, 2) := by decide +kernel
theorem d_L_law_222 : decode code 222 = .ok (.aload_n 2, 1) := by decide +kernel
theorem d_L_law_223 : decode code 223 = .ok (.aload_n 0, 1) := by decide +kernel
theorem d_L_law_224 : decode code 224 = .ok (.iload 4, 2) := by decide +kernel
theorem d_L_law_226 : decode code 226 = .ok (.iconst 1, 1) := by decide +kernel
theorem d_L_law_227 : decode code 227 = .ok (.iadd, 1) := by decide +kernel
theorem d_L_law_228 : decode code 228 = .ok (.iaload, 1) := by decide +kernel
theorem d_L_law_229 : decode code 229 = .ok (.aload_n 0, 1) := by decide +kernel
theorem d_L_law_230 : decode code 230 = .ok (.iload 4, 2) := by decide +kernel
theorem d_L_law_232 : decode code 232 = .ok (.iconst 2, 1) := by decide +kernel
theorem d_L_law_233 : decode code 233 = .ok (.iadd, 1) := by decide +kernel
theorem d_L_law_234 : decode code 234 = .ok (.iaload, 1) := by decide +kernel
theorem d_L_law_235 : decode code 235 = .ok (.aload_n 0, 1) := by decide +kernel
theorem d_L_law_236 : decode code 236 = .ok (.iload 4, 2) := by decide +kernel
theorem d_L_law_238 : decode code 238 = .ok (.iconst 3, 1) := by decide +kernel
theorem d_L_law_239 : decode code 239 = .ok (.iadd, 1) := by decide +kernel
theorem d_L_law_240 : decode code 240 = .ok (.iaload, 1) := by decide +kernel
theorem d_L_law_241 : decode code 241 = .ok (.aload_n 0, 1) := by decide +kernel
theorem d_L_law_242 : decode code 242 = .ok (.iload 4, 2) := by decide +kernel
theorem d_L_law_244 : decode code 244 = .ok (.iconst 4, 1) := by decide +kernel
theorem d_L_law_245 : decode code 245 = .ok (.iadd, 1) := by decide +kernel
theorem d_L_law_246 : decode code 246 = .ok (.iaload, 1) := by decide +kernel
theorem d_L_law_247 : decode code 247 = .ok (.i2l, 1) := by decide +kernel
theorem d_L_law_248 : decode code 248 = .ok (.bipush 32, 2) := by decide +kernel
theorem d_L_law_250 : decode code 250 = .ok (.lshl, 1) := by decide +kernel
theorem d_L_law_251 : decode code 251 = .ok (.aload_n 0, 1) := by decide +kernel
theorem d_L_law_252 : decode code 252 = .ok (.iload 4, 2) := by decide +kernel
theorem d_L_law_254 : decode code 254 = .ok (.iconst 5, 1) := by decide +kernel
theorem d_L_law_255 : decode code 255 = .ok (.iadd, 1) := by decide +kernel
theorem d_L_law_256 : decode code 256 = .ok (.iaload, 1) := by decide +kernel
theorem d_L_law_257 : decode code 257 = .ok (.i2l, 1) := by decide +kernel
theorem d_L_law_258 : decode code 258 = .ok (.ldc2_w 87, 3) := by decide +kernel
theorem d_L_law_261 : decode code 261 = .ok (.land, 1) := by decide +kernel
theorem d_L_law_262 : decode code 262 = .ok (.lor, 1) := by decide +kernel
theorem d_L_law_263 : decode code 263 = .ok (.invokevirtual 92, 3) := by decide +kernel
theorem d_L_law_266 : decode code 266 = .ok (.aload_n 2, 1) := by decide +kernel
theorem d_L_law_267 : decode code 267 = .ok (.invokevirtual 83, 3) := by decide +kernel
theorem d_L_law_270 : decode code 270 = .ok (.iload 5, 2) := by decide +kernel
theorem d_L_law_272 : decode code 272 = .ok (.if_icmp .eq 5, 3) := by decide +kernel
theorem d_L_law_275 : decode code 275 = .ok (.iconst 0, 1) := by decide +kernel
theorem d_L_law_276 : decode code 276 = .ok (.ireturn, 1) := by decide +kernel
theorem d_L_law_277 : decode code 277 = .ok (.goto 1058, 3) := by decide +kernel
theorem d_L_law_280 : decode code 280 = .ok (.aload_n 1, 1) := by decide +kernel
theorem d_L_law_281 : decode code 281 = .ok (.aload_n 0, 1) := by decide +kernel
theorem d_L_law_282 : decode code 282 = .ok (.iload 4, 2) := by decide +kernel
theorem d_L_law_284 : decode code 284 = .ok (.iconst 1, 1) := by decide +kernel
theorem d_L_law_285 : decode code 285 = .ok (.iadd, 1) := by decide +kernel
theorem d_L_law_286 : decode code 286 = .ok (.iaload, 1) := by decide +kernel
theorem d_L_law_287 : decode code 287 = .ok (.aload_n 0, 1) := by decide +kernel
theorem d_L_law_288 : decode code 288 = .ok (.iload 4, 2) := by decide +kernel
theorem d_L_law_290 : decode code 290 = .ok (.iconst 2, 1) := by decide +kernel
theorem d_L_law_291 : decode code 291 = .ok (.iadd, 1) := by decide +kernel
theorem d_L_law_292 : decode code 292 = .ok (.iaload, 1) := by decide +kernel
theorem d_L_law_293 : decode code 293 = .ok (.aload_n 0, 1) := by decide +kernel
theorem d_L_law_294 : decode code 294 = .ok (.iload 4, 2) := by decide +kernel
theorem d_L_law_296 : decode code 296 = .ok (.iconst 3, 1) := by decide +kernel
theorem d_L_law_297 : decode code 297 = .ok (.iadd, 1) := by decide +kernel
theorem d_L_law_298 : decode code 298 = .ok (.iaload, 1) := by decide +kernel
theorem d_L_law_299 : decode code 299 = .ok (.aload_n 3, 1) := by decide +kernel
theorem d_L_law_300 : decode code 300 = .ok (.invokestatic 93, 3) := by decide +kernel
theorem d_L_law_303 : decode code 303 = .ok (.istore 5, 2) := by decide +kernel
theorem d_L_law_305 : decode code 305 = .ok (.aload_n 2, 1) := by decide +kernel
theorem d_L_law_306 : decode code 306 = .ok (.aload_n 0, 1) := by decide +kernel
theorem d_L_law_307 : decode code 307 = .ok (.iload 4, 2) := by decide +kernel
theorem d_L_law_309 : decode code 309 = .ok (.iconst 1, 1) := by decide +kernel
theorem d_L_law_310 : decode code 310 = .ok (.iadd, 1) := by decide +kernel
theorem d_L_law_311 : decode code 311 = .ok (.iaload, 1) := by decide +kernel
theorem d_L_law_312 : decode code 312 = .ok (.aload_n 0, 1) := by decide +kernel
theorem d_L_law_313 : decode code 313 = .ok (.iload 4, 2) := by decide +kernel
theorem d_L_law_315 : decode code 315 = .ok (.iconst 2, 1) := by decide +kernel
theorem d_L_law_316 : decode code 316 = .ok (.iadd, 1) := by decide +kernel
theorem d_L_law_317 : decode code 317 = .ok (.iaload, 1) := by decide +kernel
theorem d_L_law_318 : decode code 318 = .ok (.aload_n 0, 1) := by decide +kernel
theorem d_L_law_319 : decode code 319 = .ok (.iload 4, 2) := by decide +kernel
theorem d_L_law_321 : decode code 321 = .ok (.iconst 3, 1) := by decide +kernel
theorem d_L_law_322 : decode code 322 = .ok (.iadd, 1) := by decide +kernel
theorem d_L_law_323 : decode code 323 = .ok (.iaload, 1) := by decide +kernel
theorem d_L_law_324 : decode code 324 = .ok (.invokevirtual 96, 3) := by decide +kernel
theorem d_L_law_327 : decode code 327 = .ok (.istore 6, 2) := by decide +kernel
theorem d_L_law_329 : decode code 329 = .ok (.aload_n 2, 1) := by decide +kernel
theorem d_L_law_330 : decode code 330 = .ok (.invokevirtual 83, 3) := by decide +kernel
theorem d_L_law_333 : decode code 333 = .ok (.iload 5, 2) := by decide +kernel
theorem d_L_law_335 : decode code 335 = .ok (.if_icmp .eq 5, 3) := by decide +kernel
theorem d_L_law_338 : decode code 338 = .ok (.iconst 0, 1) := by decide +kernel
theorem d_L_law_339 : decode code 339 = .ok (.ireturn, 1) := by decide +kernel
theorem d_L_law_340 : decode code 340 = .ok (.iload 5, 2) := by decide +kernel
theorem d_L_law_342 : decode code 342 = .ok (.ifCond .ne 22, 3) := by decide +kernel
theorem d_L_law_345 : decode code 345 = .ok (.aload_n 3, 1) := by decide +kernel
theorem d_L_law_346 : decode code 346 = .ok (.iconst 0, 1) := by decide +kernel
theorem d_L_law_347 : decode code 347 = .ok (.laload, 1) := by decide +kernel
theorem d_L_law_348 : decode code 348 = .ok (.iload 6, 2) := by decide +kernel
theorem d_L_law_350 : decode code 350 = .ok (.ifCond .eq 7, 3) := by decide +kernel
theorem d_L_law_353 : decode code 353 = .ok (.lconst 1, 1) := by decide +kernel
theorem d_L_law_354 : decode code 354 = .ok (.goto 4, 3) := by decide +kernel
theorem d_L_law_357 : decode code 357 = .ok (.lconst 0, 1) := by decide +kernel
theorem d_L_law_358 : decode code 358 = .ok (.lcmp, 1) := by decide +kernel
theorem d_L_law_359 : decode code 359 = .ok (.ifCond .eq 5, 3) := by decide +kernel
theorem d_L_law_362 : decode code 362 = .ok (.iconst 0, 1) := by decide +kernel
theorem d_L_law_363 : decode code 363 = .ok (.ireturn, 1) := by decide +kernel
theorem d_L_law_364 : decode code 364 = .ok (.goto 971, 3) := by decide +kernel
theorem d_L_law_367 : decode code 367 = .ok (.aload_n 1, 1) := by decide +kernel
theorem d_L_law_368 : decode code 368 = .ok (.aload_n 0, 1) := by decide +kernel
theorem d_L_law_369 : decode code 369 = .ok (.iload 4, 2) := by decide +kernel
theorem d_L_law_371 : decode code 371 = .ok (.iconst 1, 1) := by decide +kernel
theorem d_L_law_372 : decode code 372 = .ok (.iadd, 1) := by decide +kernel
theorem d_L_law_373 : decode code 373 = .ok (.iaload, 1) := by decide +kernel
theorem d_L_law_374 : decode code 374 = .ok (.aload_n 0, 1) := by decide +kernel
theorem d_L_law_375 : decode code 375 = .ok (.iload 4, 2) := by decide +kernel
theorem d_L_law_377 : decode code 377 = .ok (.iconst 2, 1) := by decide +kernel
theorem d_L_law_378 : decode code 378 = .ok (.iadd, 1) := by decide +kernel
theorem d_L_law_379 : decode code 379 = .ok (.iaload, 1) := by decide +kernel
theorem d_L_law_380 : decode code 380 = .ok (.aload_n 0, 1) := by decide +kernel
theorem d_L_law_381 : decode code 381 = .ok (.iload 4, 2) := by decide +kernel
theorem d_L_law_383 : decode code 383 = .ok (.iconst 3, 1) := by decide +kernel
theorem d_L_law_384 : decode code 384 = .ok (.iadd, 1) := by decide +kernel
theorem d_L_law_385 : decode code 385 = .ok (.iaload, 1) := by decide +kernel
theorem d_L_law_386 : decode code 386 = .ok (.aload_n 3, 1) := by decide +kernel
theorem d_L_law_387 : decode code 387 = .ok (.invokestatic 97, 3) := by decide +kernel
theorem d_L_law_390 : decode code 390 = .ok (.istore 5, 2) := by decide +kernel
theorem d_L_law_392 : decode code 392 = .ok (.aload_n 2, 1) := by decide +kernel
theorem d_L_law_393 : decode code 393 = .ok (.aload_n 0, 1) := by decide +kernel
theorem d_L_law_394 : decode code 394 = .ok (.iload 4, 2) := by decide +kernel
theorem d_L_law_396 : decode code 396 = .ok (.iconst 1, 1) := by decide +kernel
theorem d_L_law_397 : decode code 397 = .ok (.iadd, 1) := by decide +kernel
theorem d_L_law_398 : decode code 398 = .ok (.iaload, 1) := by decide +kernel
theorem d_L_law_399 : decode code 399 = .ok (.aload_n 0, 1) := by decide +kernel
theorem d_L_law_400 : decode code 400 = .ok (.iload 4, 2) := by decide +kernel
theorem d_L_law_402 : decode code 402 = .ok (.iconst 2, 1) := by decide +kernel
theorem d_L_law_403 : decode code 403 = .ok (.iadd, 1) := by decide +kernel
theorem d_L_law_404 : decode code 404 = .ok (.iaload, 1) := by decide +kernel
theorem d_L_law_405 : decode code 405 = .ok (.aload_n 0, 1) := by decide +kernel
theorem d_L_law_406 : decode code 406 = .ok (.iload 4, 2) := by decide +kernel
theorem d_L_law_408 : decode code 408 = .ok (.iconst 3, 1) := by decide +kernel
theorem d_L_law_409 : decode code 409 = .ok (.iadd, 1) := by decide +kernel
theorem d_L_law_410 : decode code 410 = .ok (.iaload, 1) := by decide +kernel
theorem d_L_law_411 : decode code 411 = .ok (.invokevirtual 99, 3) := by decide +kernel
theorem d_L_law_414 : decode code 414 = .ok (.lstore 6, 2) := by decide +kernel
theorem d_L_law_416 : decode code 416 = .ok (.aload_n 2, 1) := by decide +kernel
theorem d_L_law_417 : decode code 417 = .ok (.invokevirtual 83, 3) := by decide +kernel
theorem d_L_law_420 : decode code 420 = .ok (.iload 5, 2) := by decide +kernel
theorem d_L_law_422 : decode code 422 = .ok (.if_icmp .eq 5, 3) := by decide +kernel
theorem d_L_law_425 : decode code 425 = .ok (.iconst 0, 1) := by decide +kernel
theorem d_L_law_426 : decode code 426 = .ok (.ireturn, 1) := by decide +kernel
theorem d_L_law_427 : decode code 427 = .ok (.iload 5, 2) := by decide +kernel
theorem d_L_law_429 : decode code 429 = .ok (.ifCond .ne 14, 3) := by decide +kernel
theorem d_L_law_432 : decode code 432 = .ok (.aload_n 3, 1) := by decide +kernel
theorem d_L_law_433 : decode code 433 = .ok (.iconst 0, 1) := by decide +kernel
theorem d_L_law_434 : decode code 434 = .ok (.laload, 1) := by decide +kernel
theorem d_L_law_435 : decode code 435 = .ok (.lload 6, 2) := by decide +kernel
theorem d_L_law_437 : decode code 437 = .ok (.lcmp, 1) := by decide +kernel
theorem d_L_law_438 : decode code 438 = .ok (.ifCond .eq 5, 3) := by decide +kernel
theorem d_L_law_441 : decode code 441 = .ok (.iconst 0, 1) := by decide +kernel
theorem d_L_law_442 : decode code 442 = .ok (.ireturn, 1) := by decide +kernel
theorem d_L_law_443 : decode code 443 = .ok (.goto 892, 3) := by decide +kernel
theorem d_L_law_446 : decode code 446 = .ok (.aload_n 1, 1) := by decide +kernel
theorem d_L_law_447 : decode code 447 = .ok (.aload_n 0, 1) := by decide +kernel
theorem d_L_law_448 : decode code 448 = .ok (.iload 4, 2) := by decide +kernel
theorem d_L_law_450 : decode code 450 = .ok (.iconst 1, 1) := by decide +kernel
theorem d_L_law_451 : decode code 451 = .ok (.iadd, 1) := by decide +kernel
theorem d_L_law_452 : decode code 452 = .ok (.iaload, 1) := by decide +kernel
theorem d_L_law_453 : decode code 453 = .ok (.aload_n 3, 1) := by decide +kernel
theorem d_L_law_454 : decode code 454 = .ok (.invokestatic 100, 3) := by decide +kernel
theorem d_L_law_457 : decode code 457 = .ok (.istore 5, 2) := by decide +kernel
theorem d_L_law_459 : decode code 459 = .ok (.aload_n 2, 1) := by decide +kernel
theorem d_L_law_460 : decode code 460 = .ok (.aload_n 0, 1) := by decide +kernel
theorem d_L_law_461 : decode code 461 = .ok (.iload 4, 2) := by decide +kernel
theorem d_L_law_463 : decode code 463 = .ok (.iconst 1, 1) := by decide +kernel
theorem d_L_law_464 : decode code 464 = .ok (.iadd, 1) := by decide +kernel
theorem d_L_law_465 : decode code 465 = .ok (.iaload, 1) := by decide +kernel
theorem d_L_law_466 : decode code 466 = .ok (.invokevirtual 103, 3) := by decide +kernel
theorem d_L_law_469 : decode code 469 = .ok (.istore 6, 2) := by decide +kernel
theorem d_L_law_471 : decode code 471 = .ok (.aload_n 2, 1) := by decide +kernel
theorem d_L_law_472 : decode code 472 = .ok (.invokevirtual 83, 3) := by decide +kernel
theorem d_L_law_475 : decode code 475 = .ok (.iload 5, 2) := by decide +kernel
theorem d_L_law_477 : decode code 477 = .ok (.if_icmp .eq 5, 3) := by decide +kernel
theorem d_L_law_480 : decode code 480 = .ok (.iconst 0, 1) := by decide +kernel
theorem d_L_law_481 : decode code 481 = .ok (.ireturn, 1) := by decide +kernel
theorem d_L_law_482 : decode code 482 = .ok (.iload 5, 2) := by decide +kernel
theorem d_L_law_484 : decode code 484 = .ok (.ifCond .ne 15, 3) := by decide +kernel
theorem d_L_law_487 : decode code 487 = .ok (.aload_n 3, 1) := by decide +kernel
theorem d_L_law_488 : decode code 488 = .ok (.iconst 0, 1) := by decide +kernel
theorem d_L_law_489 : decode code 489 = .ok (.laload, 1) := by decide +kernel
theorem d_L_law_490 : decode code 490 = .ok (.iload 6, 2) := by decide +kernel
theorem d_L_law_492 : decode code 492 = .ok (.i2l, 1) := by decide +kernel
theorem d_L_law_493 : decode code 493 = .ok (.lcmp, 1) := by decide +kernel
theorem d_L_law_494 : decode code 494 = .ok (.ifCond .eq 5, 3) := by decide +kernel
theorem d_L_law_497 : decode code 497 = .ok (.iconst 0, 1) := by decide +kernel
theorem d_L_law_498 : decode code 498 = .ok (.ireturn, 1) := by decide +kernel
theorem d_L_law_499 : decode code 499 = .ok (.goto 836, 3) := by decide +kernel
theorem d_L_law_502 : decode code 502 = .ok (.aload_n 1, 1) := by decide +kernel
theorem d_L_law_503 : decode code 503 = .ok (.aload_n 0, 1) := by decide +kernel
theorem d_L_law_504 : decode code 504 = .ok (.iload 4, 2) := by decide +kernel
theorem d_L_law_506 : decode code 506 = .ok (.iconst 1, 1) := by decide +kernel
theorem d_L_law_507 : decode code 507 = .ok (.iadd, 1) := by decide +kernel
theorem d_L_law_508 : decode code 508 = .ok (.iaload, 1) := by decide +kernel
theorem d_L_law_509 : decode code 509 = .ok (.aload_n 0, 1) := by decide +kernel
theorem d_L_law_510 : decode code 510 = .ok (.iload 4, 2) := by decide +kernel
theorem d_L_law_512 : decode code 512 = .ok (.iconst 2, 1) := by decide +kernel
theorem d_L_law_513 : decode code 513 = .ok (.iadd, 1) := by decide +kernel
theorem d_L_law_514 : decode code 514 = .ok (.iaload, 1) := by decide +kernel
theorem d_L_law_515 : decode code 515 = .ok (.aload_n 0, 1) := by decide +kernel
theorem d_L_law_516 : decode code 516 = .ok (.iload 4, 2) := by decide +kernel
theorem d_L_law_518 : decode code 518 = .ok (.iconst 3, 1) := by decide +kernel
theorem d_L_law_519 : decode code 519 = .ok (.iadd, 1) := by decide +kernel
theorem d_L_law_520 : decode code 520 = .ok (.iaload, 1) := by decide +kernel
theorem d_L_law_521 : decode code 521 = .ok (.aload_n 0, 1) := by decide +kernel
theorem d_L_law_522 : decode code 522 = .ok (.iload 4, 2) := by decide +kernel
theorem d_L_law_524 : decode code 524 = .ok (.iconst 4, 1) := by decide +kernel
theorem d_L_law_525 : decode code 525 = .ok (.iadd, 1) := by decide +kernel
theorem d_L_law_526 : decode code 526 = .ok (.iaload, 1) := by decide +kernel
theorem d_L_law_527 : decode code 527 = .ok (.aload_n 0, 1) := by decide +kernel
theorem d_L_law_528 : decode code 528 = .ok (.iload 4, 2) := by decide +kernel
theorem d_L_law_530 : decode code 530 = .ok (.iconst 5, 1) := by decide +kernel
theorem d_L_law_531 : decode code 531 = .ok (.iadd, 1) := by decide +kernel
theorem d_L_law_532 : decode code 532 = .ok (.iaload, 1) := by decide +kernel
theorem d_L_law_533 : decode code 533 = .ok (.aload_n 0, 1) := by decide +kernel
theorem d_L_law_534 : decode code 534 = .ok (.iload 4, 2) := by decide +kernel
theorem d_L_law_536 : decode code 536 = .ok (.bipush 6, 2) := by decide +kernel
theorem d_L_law_538 : decode code 538 = .ok (.iadd, 1) := by decide +kernel
theorem d_L_law_539 : decode code 539 = .ok (.iaload, 1) := by decide +kernel
theorem d_L_law_540 : decode code 540 = .ok (.aload_n 3, 1) := by decide +kernel
theorem d_L_law_541 : decode code 541 = .ok (.invokestatic 104, 3) := by decide +kernel
theorem d_L_law_544 : decode code 544 = .ok (.istore 5, 2) := by decide +kernel
theorem d_L_law_546 : decode code 546 = .ok (.aload_n 2, 1) := by decide +kernel
theorem d_L_law_547 : decode code 547 = .ok (.aload_n 0, 1) := by decide +kernel
theorem d_L_law_548 : decode code 548 = .ok (.iload 4, 2) := by decide +kernel
theorem d_L_law_550 : decode code 550 = .ok (.iconst 1, 1) := by decide +kernel
theorem d_L_law_551 : decode code 551 = .ok (.iadd, 1) := by decide +kernel
theorem d_L_law_552 : decode code 552 = .ok (.iaload, 1) := by decide +kernel
theorem d_L_law_553 : decode code 553 = .ok (.aload_n 0, 1) := by decide +kernel
theorem d_L_law_554 : decode code 554 = .ok (.iload 4, 2) := by decide +kernel
theorem d_L_law_556 : decode code 556 = .ok (.iconst 2, 1) := by decide +kernel
theorem d_L_law_557 : decode code 557 = .ok (.iadd, 1) := by decide +kernel
theorem d_L_law_558 : decode code 558 = .ok (.iaload, 1) := by decide +kernel
theorem d_L_law_559 : decode code 559 = .ok (.aload_n 0, 1) := by decide +kernel
theorem d_L_law_560 : decode code 560 = .ok (.iload 4, 2) := by decide +kernel
theorem d_L_law_562 : decode code 562 = .ok (.iconst 3, 1) := by decide +kernel
theorem d_L_law_563 : decode code 563 = .ok (.iadd, 1) := by decide +kernel
theorem d_L_law_564 : decode code 564 = .ok (.iaload, 1) := by decide +kernel
theorem d_L_law_565 : decode code 565 = .ok (.aload_n 0, 1) := by decide +kernel
theorem d_L_law_566 : decode code 566 = .ok (.iload 4, 2) := by decide +kernel
theorem d_L_law_568 : decode code 568 = .ok (.iconst 4, 1) := by decide +kernel
theorem d_L_law_569 : decode code 569 = .ok (.iadd, 1) := by decide +kernel
theorem d_L_law_570 : decode code 570 = .ok (.iaload, 1) := by decide +kernel
theorem d_L_law_571 : decode code 571 = .ok (.aload_n 0, 1) := by decide +kernel
theorem d_L_law_572 : decode code 572 = .ok (.iload 4, 2) := by decide +kernel
theorem d_L_law_574 : decode code 574 = .ok (.iconst 5, 1) := by decide +kernel
theorem d_L_law_575 : decode code 575 = .ok (.iadd, 1) := by decide +kernel
theorem d_L_law_576 : decode code 576 = .ok (.iaload, 1) := by decide +kernel
theorem d_L_law_577 : decode code 577 = .ok (.aload_n 0, 1) := by decide +kernel
theorem d_L_law_578 : decode code 578 = .ok (.iload 4, 2) := by decide +kernel
theorem d_L_law_580 : decode code 580 = .ok (.bipush 6, 2) := by decide +kernel
theorem d_L_law_582 : decode code 582 = .ok (.iadd, 1) := by decide +kernel
theorem d_L_law_583 : decode code 583 = .ok (.iaload, 1) := by decide +kernel
theorem d_L_law_584 : decode code 584 = .ok (.invokevirtual 107, 3) := by decide +kernel
theorem d_L_law_587 : decode code 587 = .ok (.istore 6, 2) := by decide +kernel
theorem d_L_law_589 : decode code 589 = .ok (.aload_n 2, 1) := by decide +kernel
theorem d_L_law_590 : decode code 590 = .ok (.invokevirtual 83, 3) := by decide +kernel
theorem d_L_law_593 : decode code 593 = .ok (.iload 5, 2) := by decide +kernel
theorem d_L_law_595 : decode code 595 = .ok (.if_icmp .eq 5, 3) := by decide +kernel
theorem d_L_law_598 : decode code 598 = .ok (.iconst 0, 1) := by decide +kernel
theorem d_L_law_599 : decode code 599 = .ok (.ireturn, 1) := by decide +kernel
theorem d_L_law_600 : decode code 600 = .ok (.iload 5, 2) := by decide +kernel
theorem d_L_law_602 : decode code 602 = .ok (.ifCond .ne 15, 3) := by decide +kernel
theorem d_L_law_605 : decode code 605 = .ok (.aload_n 3, 1) := by decide +kernel
theorem d_L_law_606 : decode code 606 = .ok (.iconst 0, 1) := by decide +kernel
theorem d_L_law_607 : decode code 607 = .ok (.laload, 1) := by decide +kernel
theorem d_L_law_608 : decode code 608 = .ok (.iload 6, 2) := by decide +kernel
theorem d_L_law_610 : decode code 610 = .ok (.i2l, 1) := by decide +kernel
theorem d_L_law_611 : decode code 611 = .ok (.lcmp, 1) := by decide +kernel
theorem d_L_law_612 : decode code 612 = .ok (.ifCond .eq 5, 3) := by decide +kernel
theorem d_L_law_615 : decode code 615 = .ok (.iconst 0, 1) := by decide +kernel
theorem d_L_law_616 : decode code 616 = .ok (.ireturn, 1) := by decide +kernel
theorem d_L_law_617 : decode code 617 = .ok (.goto 718, 3) := by decide +kernel
theorem d_L_law_620 : decode code 620 = .ok (.aload_n 1, 1) := by decide +kernel
theorem d_L_law_621 : decode code 621 = .ok (.aload_n 0, 1) := by decide +kernel
theorem d_L_law_622 : decode code 622 = .ok (.iload 4, 2) := by decide +kernel
theorem d_L_law_624 : decode code 624 = .ok (.iconst 1, 1) := by decide +kernel
theorem d_L_law_625 : decode code 625 = .ok (.iadd, 1) := by decide +kernel
theorem d_L_law_626 : decode code 626 = .ok (.iaload, 1) := by decide +kernel
theorem d_L_law_627 : decode code 627 = .ok (.aload_n 0, 1) := by decide +kernel
theorem d_L_law_628 : decode code 628 = .ok (.iload 4, 2) := by decide +kernel
theorem d_L_law_630 : decode code 630 = .ok (.iconst 2, 1) := by decide +kernel
theorem d_L_law_631 : decode code 631 = .ok (.iadd, 1) := by decide +kernel
theorem d_L_law_632 : decode code 632 = .ok (.iaload, 1) := by decide +kernel
theorem d_L_law_633 : decode code 633 = .ok (.aload_n 0, 1) := by decide +kernel
theorem d_L_law_634 : decode code 634 = .ok (.iload 4, 2) := by decide +kernel
theorem d_L_law_636 : decode code 636 = .ok (.iconst 3, 1) := by decide +kernel
theorem d_L_law_637 : decode code 637 = .ok (.iadd, 1) := by decide +kernel
theorem d_L_law_638 : decode code 638 = .ok (.iaload, 1) := by decide +kernel
theorem d_L_law_639 : decode code 639 = .ok (.aload_n 0, 1) := by decide +kernel
theorem d_L_law_640 : decode code 640 = .ok (.iload 4, 2) := by decide +kernel
theorem d_L_law_642 : decode code 642 = .ok (.iconst 4, 1) := by decide +kernel
theorem d_L_law_643 : decode code 643 = .ok (.iadd, 1) := by decide +kernel
theorem d_L_law_644 : decode code 644 = .ok (.iaload, 1) := by decide +kernel
theorem d_L_law_645 : decode code 645 = .ok (.aload_n 3, 1) := by decide +kernel
theorem d_L_law_646 : decode code 646 = .ok (.invokestatic 108, 3) := by decide +kernel
theorem d_L_law_649 : decode code 649 = .ok (.istore 5, 2) := by decide +kernel
theorem d_L_law_651 : decode code 651 = .ok (.aload_n 2, 1) := by decide +kernel
theorem d_L_law_652 : decode code 652 = .ok (.aload_n 0, 1) := by decide +kernel
theorem d_L_law_653 : decode code 653 = .ok (.iload 4, 2) := by decide +kernel
theorem d_L_law_655 : decode code 655 = .ok (.iconst 1, 1) := by decide +kernel
theorem d_L_law_656 : decode code 656 = .ok (.iadd, 1) := by decide +kernel
theorem d_L_law_657 : decode code 657 = .ok (.iaload, 1) := by decide +kernel
theorem d_L_law_658 : decode code 658 = .ok (.aload_n 0, 1) := by decide +kernel
theorem d_L_law_659 : decode code 659 = .ok (.iload 4, 2) := by decide +kernel
theorem d_L_law_661 : decode code 661 = .ok (.iconst 2, 1) := by decide +kernel
theorem d_L_law_662 : decode code 662 = .ok (.iadd, 1) := by decide +kernel
theorem d_L_law_663 : decode code 663 = .ok (.iaload, 1) := by decide +kernel
theorem d_L_law_664 : decode code 664 = .ok (.aload_n 0, 1) := by decide +kernel
theorem d_L_law_665 : decode code 665 = .ok (.iload 4, 2) := by decide +kernel
theorem d_L_law_667 : decode code 667 = .ok (.iconst 3, 1) := by decide +kernel
theorem d_L_law_668 : decode code 668 = .ok (.iadd, 1) := by decide +kernel
theorem d_L_law_669 : decode code 669 = .ok (.iaload, 1) := by decide +kernel
theorem d_L_law_670 : decode code 670 = .ok (.aload_n 0, 1) := by decide +kernel
theorem d_L_law_671 : decode code 671 = .ok (.iload 4, 2) := by decide +kernel
theorem d_L_law_673 : decode code 673 = .ok (.iconst 4, 1) := by decide +kernel
theorem d_L_law_674 : decode code 674 = .ok (.iadd, 1) := by decide +kernel
theorem d_L_law_675 : decode code 675 = .ok (.iaload, 1) := by decide +kernel
theorem d_L_law_676 : decode code 676 = .ok (.invokevirtual 111, 3) := by decide +kernel
theorem d_L_law_679 : decode code 679 = .ok (.istore 6, 2) := by decide +kernel
theorem d_L_law_681 : decode code 681 = .ok (.aload_n 2, 1) := by decide +kernel
theorem d_L_law_682 : decode code 682 = .ok (.invokevirtual 83, 3) := by decide +kernel
theorem d_L_law_685 : decode code 685 = .ok (.iload 5, 2) := by decide +kernel
theorem d_L_law_687 : decode code 687 = .ok (.if_icmp .eq 5, 3) := by decide +kernel
theorem d_L_law_690 : decode code 690 = .ok (.iconst 0, 1) := by decide +kernel
theorem d_L_law_691 : decode code 691 = .ok (.ireturn, 1) := by decide +kernel
theorem d_L_law_692 : decode code 692 = .ok (.iload 5, 2) := by decide +kernel
theorem d_L_law_694 : decode code 694 = .ok (.ifCond .ne 15, 3) := by decide +kernel
theorem d_L_law_697 : decode code 697 = .ok (.aload_n 3, 1) := by decide +kernel
theorem d_L_law_698 : decode code 698 = .ok (.iconst 0, 1) := by decide +kernel
theorem d_L_law_699 : decode code 699 = .ok (.laload, 1) := by decide +kernel
theorem d_L_law_700 : decode code 700 = .ok (.iload 6, 2) := by decide +kernel
theorem d_L_law_702 : decode code 702 = .ok (.i2l, 1) := by decide +kernel
theorem d_L_law_703 : decode code 703 = .ok (.lcmp, 1) := by decide +kernel
theorem d_L_law_704 : decode code 704 = .ok (.ifCond .eq 5, 3) := by decide +kernel
theorem d_L_law_707 : decode code 707 = .ok (.iconst 0, 1) := by decide +kernel
theorem d_L_law_708 : decode code 708 = .ok (.ireturn, 1) := by decide +kernel
theorem d_L_law_709 : decode code 709 = .ok (.goto 626, 3) := by decide +kernel
theorem d_L_law_712 : decode code 712 = .ok (.aload_n 1, 1) := by decide +kernel
theorem d_L_law_713 : decode code 713 = .ok (.aload_n 0, 1) := by decide +kernel
theorem d_L_law_714 : decode code 714 = .ok (.iload 4, 2) := by decide +kernel
theorem d_L_law_716 : decode code 716 = .ok (.iconst 1, 1) := by decide +kernel
theorem d_L_law_717 : decode code 717 = .ok (.iadd, 1) := by decide +kernel
theorem d_L_law_718 : decode code 718 = .ok (.iaload, 1) := by decide +kernel
theorem d_L_law_719 : decode code 719 = .ok (.aload_n 0, 1) := by decide +kernel
theorem d_L_law_720 : decode code 720 = .ok (.iload 4, 2) := by decide +kernel
theorem d_L_law_722 : decode code 722 = .ok (.iconst 2, 1) := by decide +kernel
theorem d_L_law_723 : decode code 723 = .ok (.iadd, 1) := by decide +kernel
theorem d_L_law_724 : decode code 724 = .ok (.iaload, 1) := by decide +kernel
theorem d_L_law_725 : decode code 725 = .ok (.aload_n 0, 1) := by decide +kernel
theorem d_L_law_726 : decode code 726 = .ok (.iload 4, 2) := by decide +kernel
theorem d_L_law_728 : decode code 728 = .ok (.iconst 3, 1) := by decide +kernel
theorem d_L_law_729 : decode code 729 = .ok (.iadd, 1) := by decide +kernel
theorem d_L_law_730 : decode code 730 = .ok (.iaload, 1) := by decide +kernel
theorem d_L_law_731 : decode code 731 = .ok (.aload_n 0, 1) := by decide +kernel
theorem d_L_law_732 : decode code 732 = .ok (.iload 4, 2) := by decide +kernel
theorem d_L_law_734 : decode code 734 = .ok (.iconst 4, 1) := by decide +kernel
theorem d_L_law_735 : decode code 735 = .ok (.iadd, 1) := by decide +kernel
theorem d_L_law_736 : decode code 736 = .ok (.iaload, 1) := by decide +kernel
theorem d_L_law_737 : decode code 737 = .ok (.aload_n 3, 1) := by decide +kernel
theorem d_L_law_738 : decode code 738 = .ok (.invokestatic 112, 3) := by decide +kernel
theorem d_L_law_741 : decode code 741 = .ok (.istore 5, 2) := by decide +kernel
theorem d_L_law_743 : decode code 743 = .ok (.aload_n 2, 1) := by decide +kernel
theorem d_L_law_744 : decode code 744 = .ok (.aload_n 0, 1) := by decide +kernel
theorem d_L_law_745 : decode code 745 = .ok (.iload 4, 2) := by decide +kernel
theorem d_L_law_747 : decode code 747 = .ok (.iconst 1, 1) := by decide +kernel
theorem d_L_law_748 : decode code 748 = .ok (.iadd, 1) := by decide +kernel
theorem d_L_law_749 : decode code 749 = .ok (.iaload, 1) := by decide +kernel
theorem d_L_law_750 : decode code 750 = .ok (.aload_n 0, 1) := by decide +kernel
theorem d_L_law_751 : decode code 751 = .ok (.iload 4, 2) := by decide +kernel
theorem d_L_law_753 : decode code 753 = .ok (.iconst 2, 1) := by decide +kernel
theorem d_L_law_754 : decode code 754 = .ok (.iadd, 1) := by decide +kernel
theorem d_L_law_755 : decode code 755 = .ok (.iaload, 1) := by decide +kernel
theorem d_L_law_756 : decode code 756 = .ok (.aload_n 0, 1) := by decide +kernel
theorem d_L_law_757 : decode code 757 = .ok (.iload 4, 2) := by decide +kernel
theorem d_L_law_759 : decode code 759 = .ok (.iconst 3, 1) := by decide +kernel
theorem d_L_law_760 : decode code 760 = .ok (.iadd, 1) := by decide +kernel
theorem d_L_law_761 : decode code 761 = .ok (.iaload, 1) := by decide +kernel
theorem d_L_law_762 : decode code 762 = .ok (.aload_n 0, 1) := by decide +kernel
theorem d_L_law_763 : decode code 763 = .ok (.iload 4, 2) := by decide +kernel
theorem d_L_law_765 : decode code 765 = .ok (.iconst 4, 1) := by decide +kernel
theorem d_L_law_766 : decode code 766 = .ok (.iadd, 1) := by decide +kernel
theorem d_L_law_767 : decode code 767 = .ok (.iaload, 1) := by decide +kernel
theorem d_L_law_768 : decode code 768 = .ok (.invokevirtual 114, 3) := by decide +kernel
theorem d_L_law_771 : decode code 771 = .ok (.istore 6, 2) := by decide +kernel
theorem d_L_law_773 : decode code 773 = .ok (.aload_n 2, 1) := by decide +kernel
theorem d_L_law_774 : decode code 774 = .ok (.invokevirtual 83, 3) := by decide +kernel
theorem d_L_law_777 : decode code 777 = .ok (.iload 5, 2) := by decide +kernel
theorem d_L_law_779 : decode code 779 = .ok (.if_icmp .eq 5, 3) := by decide +kernel
theorem d_L_law_782 : decode code 782 = .ok (.iconst 0, 1) := by decide +kernel
theorem d_L_law_783 : decode code 783 = .ok (.ireturn, 1) := by decide +kernel
theorem d_L_law_784 : decode code 784 = .ok (.iload 5, 2) := by decide +kernel
theorem d_L_law_786 : decode code 786 = .ok (.ifCond .ne 15, 3) := by decide +kernel
theorem d_L_law_789 : decode code 789 = .ok (.aload_n 3, 1) := by decide +kernel
theorem d_L_law_790 : decode code 790 = .ok (.iconst 0, 1) := by decide +kernel
theorem d_L_law_791 : decode code 791 = .ok (.laload, 1) := by decide +kernel
theorem d_L_law_792 : decode code 792 = .ok (.iload 6, 2) := by decide +kernel
theorem d_L_law_794 : decode code 794 = .ok (.i2l, 1) := by decide +kernel
theorem d_L_law_795 : decode code 795 = .ok (.lcmp, 1) := by decide +kernel
theorem d_L_law_796 : decode code 796 = .ok (.ifCond .eq 5, 3) := by decide +kernel
theorem d_L_law_799 : decode code 799 = .ok (.iconst 0, 1) := by decide +kernel
theorem d_L_law_800 : decode code 800 = .ok (.ireturn, 1) := by decide +kernel
theorem d_L_law_801 : decode code 801 = .ok (.goto 534, 3) := by decide +kernel
theorem d_L_law_804 : decode code 804 = .ok (.aload_n 1, 1) := by decide +kernel
theorem d_L_law_805 : decode code 805 = .ok (.aload_n 0, 1) := by decide +kernel
theorem d_L_law_806 : decode code 806 = .ok (.iload 4, 2) := by decide +kernel
theorem d_L_law_808 : decode code 808 = .ok (.iconst 1, 1) := by decide +kernel
theorem d_L_law_809 : decode code 809 = .ok (.iadd, 1) := by decide +kernel
theorem d_L_law_810 : decode code 810 = .ok (.iaload, 1) := by decide +kernel
theorem d_L_law_811 : decode code 811 = .ok (.aload_n 0, 1) := by decide +kernel
theorem d_L_law_812 : decode code 812 = .ok (.iload 4, 2) := by decide +kernel
theorem d_L_law_814 : decode code 814 = .ok (.iconst 2, 1) := by decide +kernel
theorem d_L_law_815 : decode code 815 = .ok (.iadd, 1) := by decide +kernel
theorem d_L_law_816 : decode code 816 = .ok (.iaload, 1) := by decide +kernel
theorem d_L_law_817 : decode code 817 = .ok (.aload_n 3, 1) := by decide +kernel
theorem d_L_law_818 : decode code 818 = .ok (.invokestatic 115, 3) := by decide +kernel
theorem d_L_law_821 : decode code 821 = .ok (.istore 5, 2) := by decide +kernel
theorem d_L_law_823 : decode code 823 = .ok (.aload_n 2, 1) := by decide +kernel
theorem d_L_law_824 : decode code 824 = .ok (.aload_n 0, 1) := by decide +kernel
theorem d_L_law_825 : decode code 825 = .ok (.iload 4, 2) := by decide +kernel
theorem d_L_law_827 : decode code 827 = .ok (.iconst 1, 1) := by decide +kernel
theorem d_L_law_828 : decode code 828 = .ok (.iadd, 1) := by decide +kernel
theorem d_L_law_829 : decode code 829 = .ok (.iaload, 1) := by decide +kernel
theorem d_L_law_830 : decode code 830 = .ok (.aload_n 0, 1) := by decide +kernel
theorem d_L_law_831 : decode code 831 = .ok (.iload 4, 2) := by decide +kernel
theorem d_L_law_833 : decode code 833 = .ok (.iconst 2, 1) := by decide +kernel
theorem d_L_law_834 : decode code 834 = .ok (.iadd, 1) := by decide +kernel
theorem d_L_law_835 : decode code 835 = .ok (.iaload, 1) := by decide +kernel
theorem d_L_law_836 : decode code 836 = .ok (.invokevirtual 118, 3) := by decide +kernel
theorem d_L_law_839 : decode code 839 = .ok (.istore 6, 2) := by decide +kernel
theorem d_L_law_841 : decode code 841 = .ok (.aload_n 2, 1) := by decide +kernel
theorem d_L_law_842 : decode code 842 = .ok (.invokevirtual 83, 3) := by decide +kernel
theorem d_L_law_845 : decode code 845 = .ok (.iload 5, 2) := by decide +kernel
theorem d_L_law_847 : decode code 847 = .ok (.if_icmp .eq 5, 3) := by decide +kernel
theorem d_L_law_850 : decode code 850 = .ok (.iconst 0, 1) := by decide +kernel
theorem d_L_law_851 : decode code 851 = .ok (.ireturn, 1) := by decide +kernel
theorem d_L_law_852 : decode code 852 = .ok (.iload 5, 2) := by decide +kernel
theorem d_L_law_854 : decode code 854 = .ok (.ifCond .ne 15, 3) := by decide +kernel
theorem d_L_law_857 : decode code 857 = .ok (.aload_n 3, 1) := by decide +kernel
theorem d_L_law_858 : decode code 858 = .ok (.iconst 0, 1) := by decide +kernel
theorem d_L_law_859 : decode code 859 = .ok (.laload, 1) := by decide +kernel
theorem d_L_law_860 : decode code 860 = .ok (.iload 6, 2) := by decide +kernel
theorem d_L_law_862 : decode code 862 = .ok (.i2l, 1) := by decide +kernel
theorem d_L_law_863 : decode code 863 = .ok (.lcmp, 1) := by decide +kernel
theorem d_L_law_864 : decode code 864 = .ok (.ifCond .eq 5, 3) := by decide +kernel
theorem d_L_law_867 : decode code 867 = .ok (.iconst 0, 1) := by decide +kernel
theorem d_L_law_868 : decode code 868 = .ok (.ireturn, 1) := by decide +kernel
theorem d_L_law_869 : decode code 869 = .ok (.goto 466, 3) := by decide +kernel
theorem d_L_law_872 : decode code 872 = .ok (.aload_n 1, 1) := by decide +kernel
theorem d_L_law_873 : decode code 873 = .ok (.aload_n 0, 1) := by decide +kernel
theorem d_L_law_874 : decode code 874 = .ok (.iload 4, 2) := by decide +kernel
theorem d_L_law_876 : decode code 876 = .ok (.iconst 1, 1) := by decide +kernel
theorem d_L_law_877 : decode code 877 = .ok (.iadd, 1) := by decide +kernel
theorem d_L_law_878 : decode code 878 = .ok (.iaload, 1) := by decide +kernel
theorem d_L_law_879 : decode code 879 = .ok (.aload_n 0, 1) := by decide +kernel
theorem d_L_law_880 : decode code 880 = .ok (.iload 4, 2) := by decide +kernel
theorem d_L_law_882 : decode code 882 = .ok (.iconst 2, 1) := by decide +kernel
theorem d_L_law_883 : decode code 883 = .ok (.iadd, 1) := by decide +kernel
theorem d_L_law_884 : decode code 884 = .ok (.iaload, 1) := by decide +kernel
theorem d_L_law_885 : decode code 885 = .ok (.aload_n 0, 1) := by decide +kernel
theorem d_L_law_886 : decode code 886 = .ok (.iload 4, 2) := by decide +kernel
theorem d_L_law_888 : decode code 888 = .ok (.iconst 3, 1) := by decide +kernel
theorem d_L_law_889 : decode code 889 = .ok (.iadd, 1) := by decide +kernel
theorem d_L_law_890 : decode code 890 = .ok (.iaload, 1) := by decide +kernel
theorem d_L_law_891 : decode code 891 = .ok (.aload_n 0, 1) := by decide +kernel
theorem d_L_law_892 : decode code 892 = .ok (.iload 4, 2) := by decide +kernel
theorem d_L_law_894 : decode code 894 = .ok (.iconst 4, 1) := by decide +kernel
theorem d_L_law_895 : decode code 895 = .ok (.iadd, 1) := by decide +kernel
theorem d_L_law_896 : decode code 896 = .ok (.iaload, 1) := by decide +kernel
theorem d_L_law_897 : decode code 897 = .ok (.i2l, 1) := by decide +kernel
theorem d_L_law_898 : decode code 898 = .ok (.bipush 32, 2) := by decide +kernel
theorem d_L_law_900 : decode code 900 = .ok (.lshl, 1) := by decide +kernel
theorem d_L_law_901 : decode code 901 = .ok (.aload_n 0, 1) := by decide +kernel
theorem d_L_law_902 : decode code 902 = .ok (.iload 4, 2) := by decide +kernel
theorem d_L_law_904 : decode code 904 = .ok (.iconst 5, 1) := by decide +kernel
theorem d_L_law_905 : decode code 905 = .ok (.iadd, 1) := by decide +kernel
theorem d_L_law_906 : decode code 906 = .ok (.iaload, 1) := by decide +kernel
theorem d_L_law_907 : decode code 907 = .ok (.i2l, 1) := by decide +kernel
theorem d_L_law_908 : decode code 908 = .ok (.ldc2_w 87, 3) := by decide +kernel
theorem d_L_law_911 : decode code 911 = .ok (.land, 1) := by decide +kernel
theorem d_L_law_912 : decode code 912 = .ok (.lor, 1) := by decide +kernel
theorem d_L_law_913 : decode code 913 = .ok (.aload_n 3, 1) := by decide +kernel
theorem d_L_law_914 : decode code 914 = .ok (.invokestatic 119, 3) := by decide +kernel
theorem d_L_law_917 : decode code 917 = .ok (.istore 5, 2) := by decide +kernel
theorem d_L_law_919 : decode code 919 = .ok (.aload_n 2, 1) := by decide +kernel
theorem d_L_law_920 : decode code 920 = .ok (.aload_n 0, 1) := by decide +kernel
theorem d_L_law_921 : decode code 921 = .ok (.iload 4, 2) := by decide +kernel
theorem d_L_law_923 : decode code 923 = .ok (.iconst 1, 1) := by decide +kernel
theorem d_L_law_924 : decode code 924 = .ok (.iadd, 1) := by decide +kernel
theorem d_L_law_925 : decode code 925 = .ok (.iaload, 1) := by decide +kernel
theorem d_L_law_926 : decode code 926 = .ok (.aload_n 0, 1) := by decide +kernel
theorem d_L_law_927 : decode code 927 = .ok (.iload 4, 2) := by decide +kernel
theorem d_L_law_929 : decode code 929 = .ok (.iconst 2, 1) := by decide +kernel
theorem d_L_law_930 : decode code 930 = .ok (.iadd, 1) := by decide +kernel
theorem d_L_law_931 : decode code 931 = .ok (.iaload, 1) := by decide +kernel
theorem d_L_law_932 : decode code 932 = .ok (.aload_n 0, 1) := by decide +kernel
theorem d_L_law_933 : decode code 933 = .ok (.iload 4, 2) := by decide +kernel
theorem d_L_law_935 : decode code 935 = .ok (.iconst 3, 1) := by decide +kernel
theorem d_L_law_936 : decode code 936 = .ok (.iadd, 1) := by decide +kernel
theorem d_L_law_937 : decode code 937 = .ok (.iaload, 1) := by decide +kernel
theorem d_L_law_938 : decode code 938 = .ok (.aload_n 0, 1) := by decide +kernel
theorem d_L_law_939 : decode code 939 = .ok (.iload 4, 2) := by decide +kernel
theorem d_L_law_941 : decode code 941 = .ok (.iconst 4, 1) := by decide +kernel
theorem d_L_law_942 : decode code 942 = .ok (.iadd, 1) := by decide +kernel
theorem d_L_law_943 : decode code 943 = .ok (.iaload, 1) := by decide +kernel
theorem d_L_law_944 : decode code 944 = .ok (.i2l, 1) := by decide +kernel
theorem d_L_law_945 : decode code 945 = .ok (.bipush 32, 2) := by decide +kernel
theorem d_L_law_947 : decode code 947 = .ok (.lshl, 1) := by decide +kernel
theorem d_L_law_948 : decode code 948 = .ok (.aload_n 0, 1) := by decide +kernel
theorem d_L_law_949 : decode code 949 = .ok (.iload 4, 2) := by decide +kernel
theorem d_L_law_951 : decode code 951 = .ok (.iconst 5, 1) := by decide +kernel
theorem d_L_law_952 : decode code 952 = .ok (.iadd, 1) := by decide +kernel
theorem d_L_law_953 : decode code 953 = .ok (.iaload, 1) := by decide +kernel
theorem d_L_law_954 : decode code 954 = .ok (.i2l, 1) := by decide +kernel
theorem d_L_law_955 : decode code 955 = .ok (.ldc2_w 87, 3) := by decide +kernel
theorem d_L_law_958 : decode code 958 = .ok (.land, 1) := by decide +kernel
theorem d_L_law_959 : decode code 959 = .ok (.lor, 1) := by decide +kernel
theorem d_L_law_960 : decode code 960 = .ok (.invokevirtual 122, 3) := by decide +kernel
theorem d_L_law_963 : decode code 963 = .ok (.istore 6, 2) := by decide +kernel
theorem d_L_law_965 : decode code 965 = .ok (.aload_n 2, 1) := by decide +kernel
theorem d_L_law_966 : decode code 966 = .ok (.invokevirtual 83, 3) := by decide +kernel
theorem d_L_law_969 : decode code 969 = .ok (.iload 5, 2) := by decide +kernel
theorem d_L_law_971 : decode code 971 = .ok (.if_icmp .eq 5, 3) := by decide +kernel
theorem d_L_law_974 : decode code 974 = .ok (.iconst 0, 1) := by decide +kernel
theorem d_L_law_975 : decode code 975 = .ok (.ireturn, 1) := by decide +kernel
theorem d_L_law_976 : decode code 976 = .ok (.iload 5, 2) := by decide +kernel
theorem d_L_law_978 : decode code 978 = .ok (.ifCond .ne 15, 3) := by decide +kernel
theorem d_L_law_981 : decode code 981 = .ok (.aload_n 3, 1) := by decide +kernel
theorem d_L_law_982 : decode code 982 = .ok (.iconst 0, 1) := by decide +kernel
theorem d_L_law_983 : decode code 983 = .ok (.laload, 1) := by decide +kernel
theorem d_L_law_984 : decode code 984 = .ok (.iload 6, 2) := by decide +kernel
theorem d_L_law_986 : decode code 986 = .ok (.i2l, 1) := by decide +kernel
theorem d_L_law_987 : decode code 987 = .ok (.lcmp, 1) := by decide +kernel
theorem d_L_law_988 : decode code 988 = .ok (.ifCond .eq 5, 3) := by decide +kernel
theorem d_L_law_991 : decode code 991 = .ok (.iconst 0, 1) := by decide +kernel
theorem d_L_law_992 : decode code 992 = .ok (.ireturn, 1) := by decide +kernel
theorem d_L_law_993 : decode code 993 = .ok (.goto 342, 3) := by decide +kernel
theorem d_L_law_996 : decode code 996 = .ok (.aload_n 1, 1) := by decide +kernel
theorem d_L_law_997 : decode code 997 = .ok (.aload_n 0, 1) := by decide +kernel
theorem d_L_law_998 : decode code 998 = .ok (.iload 4, 2) := by decide +kernel
theorem d_L_law_1000 : decode code 1000 = .ok (.iconst 1, 1) := by decide +kernel
theorem d_L_law_1001 : decode code 1001 = .ok (.iadd, 1) := by decide +kernel
theorem d_L_law_1002 : decode code 1002 = .ok (.iaload, 1) := by decide +kernel
theorem d_L_law_1003 : decode code 1003 = .ok (.aload_n 0, 1) := by decide +kernel
theorem d_L_law_1004 : decode code 1004 = .ok (.iload 4, 2) := by decide +kernel
theorem d_L_law_1006 : decode code 1006 = .ok (.iconst 2, 1) := by decide +kernel
theorem d_L_law_1007 : decode code 1007 = .ok (.iadd, 1) := by decide +kernel
theorem d_L_law_1008 : decode code 1008 = .ok (.iaload, 1) := by decide +kernel
theorem d_L_law_1009 : decode code 1009 = .ok (.aload_n 3, 1) := by decide +kernel
theorem d_L_law_1010 : decode code 1010 = .ok (.invokestatic 123, 3) := by decide +kernel
theorem d_L_law_1013 : decode code 1013 = .ok (.istore 5, 2) := by decide +kernel
theorem d_L_law_1015 : decode code 1015 = .ok (.aload_n 2, 1) := by decide +kernel
theorem d_L_law_1016 : decode code 1016 = .ok (.aload_n 0, 1) := by decide +kernel
theorem d_L_law_1017 : decode code 1017 = .ok (.iload 4, 2) := by decide +kernel
theorem d_L_law_1019 : decode code 1019 = .ok (.iconst 1, 1) := by decide +kernel
theorem d_L_law_1020 : decode code 1020 = .ok (.iadd, 1) := by decide +kernel
theorem d_L_law_1021 : decode code 1021 = .ok (.iaload, 1) := by decide +kernel
theorem d_L_law_1022 : decode code 1022 = .ok (.aload_n 0, 1) := by decide +kernel
theorem d_L_law_1023 : decode code 1023 = .ok (.iload 4, 2) := by decide +kernel
theorem d_L_law_1025 : decode code 1025 = .ok (.iconst 2, 1) := by decide +kernel
theorem d_L_law_1026 : decode code 1026 = .ok (.iadd, 1) := by decide +kernel
theorem d_L_law_1027 : decode code 1027 = .ok (.iaload, 1) := by decide +kernel
theorem d_L_law_1028 : decode code 1028 = .ok (.invokevirtual 125, 3) := by decide +kernel
theorem d_L_law_1031 : decode code 1031 = .ok (.lstore 6, 2) := by decide +kernel
theorem d_L_law_1033 : decode code 1033 = .ok (.aload_n 2, 1) := by decide +kernel
theorem d_L_law_1034 : decode code 1034 = .ok (.invokevirtual 83, 3) := by decide +kernel
theorem d_L_law_1037 : decode code 1037 = .ok (.iload 5, 2) := by decide +kernel
theorem d_L_law_1039 : decode code 1039 = .ok (.if_icmp .eq 5, 3) := by decide +kernel
theorem d_L_law_1042 : decode code 1042 = .ok (.iconst 0, 1) := by decide +kernel
theorem d_L_law_1043 : decode code 1043 = .ok (.ireturn, 1) := by decide +kernel
theorem d_L_law_1044 : decode code 1044 = .ok (.iload 5, 2) := by decide +kernel
theorem d_L_law_1046 : decode code 1046 = .ok (.ifCond .ne 14, 3) := by decide +kernel
theorem d_L_law_1049 : decode code 1049 = .ok (.aload_n 3, 1) := by decide +kernel
theorem d_L_law_1050 : decode code 1050 = .ok (.iconst 0, 1) := by decide +kernel
theorem d_L_law_1051 : decode code 1051 = .ok (.laload, 1) := by decide +kernel
theorem d_L_law_1052 : decode code 1052 = .ok (.lload 6, 2) := by decide +kernel
theorem d_L_law_1054 : decode code 1054 = .ok (.lcmp, 1) := by decide +kernel
theorem d_L_law_1055 : decode code 1055 = .ok (.ifCond .eq 5, 3) := by decide +kernel
theorem d_L_law_1058 : decode code 1058 = .ok (.iconst 0, 1) := by decide +kernel
theorem d_L_law_1059 : decode code 1059 = .ok (.ireturn, 1) := by decide +kernel
theorem d_L_law_1060 : decode code 1060 = .ok (.goto 275, 3) := by decide +kernel
theorem d_L_law_1063 : decode code 1063 = .ok (.aload_n 1, 1) := by decide +kernel
theorem d_L_law_1064 : decode code 1064 = .ok (.aload_n 0, 1) := by decide +kernel
theorem d_L_law_1065 : decode code 1065 = .ok (.iload 4, 2) := by decide +kernel
theorem d_L_law_1067 : decode code 1067 = .ok (.iconst 1, 1) := by decide +kernel
theorem d_L_law_1068 : decode code 1068 = .ok (.iadd, 1) := by decide +kernel
theorem d_L_law_1069 : decode code 1069 = .ok (.iaload, 1) := by decide +kernel
theorem d_L_law_1070 : decode code 1070 = .ok (.aload_n 0, 1) := by decide +kernel
theorem d_L_law_1071 : decode code 1071 = .ok (.iload 4, 2) := by decide +kernel
theorem d_L_law_1073 : decode code 1073 = .ok (.iconst 2, 1) := by decide +kernel
theorem d_L_law_1074 : decode code 1074 = .ok (.iadd, 1) := by decide +kernel
theorem d_L_law_1075 : decode code 1075 = .ok (.iaload, 1) := by decide +kernel
theorem d_L_law_1076 : decode code 1076 = .ok (.aload_n 0, 1) := by decide +kernel
theorem d_L_law_1077 : decode code 1077 = .ok (.iload 4, 2) := by decide +kernel
theorem d_L_law_1079 : decode code 1079 = .ok (.iconst 3, 1) := by decide +kernel
theorem d_L_law_1080 : decode code 1080 = .ok (.iadd, 1) := by decide +kernel
theorem d_L_law_1081 : decode code 1081 = .ok (.iaload, 1) := by decide +kernel
theorem d_L_law_1082 : decode code 1082 = .ok (.aload_n 3, 1) := by decide +kernel
theorem d_L_law_1083 : decode code 1083 = .ok (.invokestatic 126, 3) := by decide +kernel
theorem d_L_law_1086 : decode code 1086 = .ok (.istore 5, 2) := by decide +kernel
theorem d_L_law_1088 : decode code 1088 = .ok (.aload_n 2, 1) := by decide +kernel
theorem d_L_law_1089 : decode code 1089 = .ok (.aload_n 0, 1) := by decide +kernel
theorem d_L_law_1090 : decode code 1090 = .ok (.iload 4, 2) := by decide +kernel
theorem d_L_law_1092 : decode code 1092 = .ok (.iconst 1, 1) := by decide +kernel
theorem d_L_law_1093 : decode code 1093 = .ok (.iadd, 1) := by decide +kernel
theorem d_L_law_1094 : decode code 1094 = .ok (.iaload, 1) := by decide +kernel
theorem d_L_law_1095 : decode code 1095 = .ok (.aload_n 0, 1) := by decide +kernel
theorem d_L_law_1096 : decode code 1096 = .ok (.iload 4, 2) := by decide +kernel
theorem d_L_law_1098 : decode code 1098 = .ok (.iconst 2, 1) := by decide +kernel
theorem d_L_law_1099 : decode code 1099 = .ok (.iadd, 1) := by decide +kernel
theorem d_L_law_1100 : decode code 1100 = .ok (.iaload, 1) := by decide +kernel
theorem d_L_law_1101 : decode code 1101 = .ok (.aload_n 0, 1) := by decide +kernel
theorem d_L_law_1102 : decode code 1102 = .ok (.iload 4, 2) := by decide +kernel
theorem d_L_law_1104 : decode code 1104 = .ok (.iconst 3, 1) := by decide +kernel
theorem d_L_law_1105 : decode code 1105 = .ok (.iadd, 1) := by decide +kernel
theorem d_L_law_1106 : decode code 1106 = .ok (.iaload, 1) := by decide +kernel
theorem d_L_law_1107 : decode code 1107 = .ok (.invokevirtual 128, 3) := by decide +kernel
theorem d_L_law_1110 : decode code 1110 = .ok (.istore 6, 2) := by decide +kernel
theorem d_L_law_1112 : decode code 1112 = .ok (.aload_n 2, 1) := by decide +kernel
theorem d_L_law_1113 : decode code 1113 = .ok (.invokevirtual 83, 3) := by decide +kernel
theorem d_L_law_1116 : decode code 1116 = .ok (.iload 5, 2) := by decide +kernel
theorem d_L_law_1118 : decode code 1118 = .ok (.if_icmp .eq 5, 3) := by decide +kernel
theorem d_L_law_1121 : decode code 1121 = .ok (.iconst 0, 1) := by decide +kernel
theorem d_L_law_1122 : decode code 1122 = .ok (.ireturn, 1) := by decide +kernel
theorem d_L_law_1123 : decode code 1123 = .ok (.iload 5, 2) := by decide +kernel
theorem d_L_law_1125 : decode code 1125 = .ok (.ifCond .ne 15, 3) := by decide +kernel
theorem d_L_law_1128 : decode code 1128 = .ok (.aload_n 3, 1) := by decide +kernel
theorem d_L_law_1129 : decode code 1129 = .ok (.iconst 0, 1) := by decide +kernel
theorem d_L_law_1130 : decode code 1130 = .ok (.laload, 1) := by decide +kernel
theorem d_L_law_1131 : decode code 1131 = .ok (.iload 6, 2) := by decide +kernel
theorem d_L_law_1133 : decode code 1133 = .ok (.i2l, 1) := by decide +kernel
theorem d_L_law_1134 : decode code 1134 = .ok (.lcmp, 1) := by decide +kernel
theorem d_L_law_1135 : decode code 1135 = .ok (.ifCond .eq 5, 3) := by decide +kernel
theorem d_L_law_1138 : decode code 1138 = .ok (.iconst 0, 1) := by decide +kernel
theorem d_L_law_1139 : decode code 1139 = .ok (.ireturn, 1) := by decide +kernel
theorem d_L_law_1140 : decode code 1140 = .ok (.goto 195, 3) := by decide +kernel
theorem d_L_law_1143 : decode code 1143 = .ok (.aload_n 1, 1) := by decide +kernel
theorem d_L_law_1144 : decode code 1144 = .ok (.aload_n 0, 1) := by decide +kernel
theorem d_L_law_1145 : decode code 1145 = .ok (.iload 4, 2) := by decide +kernel
theorem d_L_law_1147 : decode code 1147 = .ok (.iconst 1, 1) := by decide +kernel
theorem d_L_law_1148 : decode code 1148 = .ok (.iadd, 1) := by decide +kernel
theorem d_L_law_1149 : decode code 1149 = .ok (.iaload, 1) := by decide +kernel
theorem d_L_law_1150 : decode code 1150 = .ok (.aload_n 0, 1) := by decide +kernel
theorem d_L_law_1151 : decode code 1151 = .ok (.iload 4, 2) := by decide +kernel
theorem d_L_law_1153 : decode code 1153 = .ok (.iconst 2, 1) := by decide +kernel
theorem d_L_law_1154 : decode code 1154 = .ok (.iadd, 1) := by decide +kernel
theorem d_L_law_1155 : decode code 1155 = .ok (.iaload, 1) := by decide +kernel
theorem d_L_law_1156 : decode code 1156 = .ok (.aload_n 3, 1) := by decide +kernel
theorem d_L_law_1157 : decode code 1157 = .ok (.invokestatic 129, 3) := by decide +kernel
theorem d_L_law_1160 : decode code 1160 = .ok (.istore 5, 2) := by decide +kernel
theorem d_L_law_1162 : decode code 1162 = .ok (.aload_n 2, 1) := by decide +kernel
theorem d_L_law_1163 : decode code 1163 = .ok (.aload_n 0, 1) := by decide +kernel
theorem d_L_law_1164 : decode code 1164 = .ok (.iload 4, 2) := by decide +kernel
theorem d_L_law_1166 : decode code 1166 = .ok (.iconst 1, 1) := by decide +kernel
theorem d_L_law_1167 : decode code 1167 = .ok (.iadd, 1) := by decide +kernel
theorem d_L_law_1168 : decode code 1168 = .ok (.iaload, 1) := by decide +kernel
theorem d_L_law_1169 : decode code 1169 = .ok (.aload_n 0, 1) := by decide +kernel
theorem d_L_law_1170 : decode code 1170 = .ok (.iload 4, 2) := by decide +kernel
theorem d_L_law_1172 : decode code 1172 = .ok (.iconst 2, 1) := by decide +kernel
theorem d_L_law_1173 : decode code 1173 = .ok (.iadd, 1) := by decide +kernel
theorem d_L_law_1174 : decode code 1174 = .ok (.iaload, 1) := by decide +kernel
theorem d_L_law_1175 : decode code 1175 = .ok (.invokevirtual 131, 3) := by decide +kernel
theorem d_L_law_1178 : decode code 1178 = .ok (.istore 6, 2) := by decide +kernel
theorem d_L_law_1180 : decode code 1180 = .ok (.aload_n 2, 1) := by decide +kernel
theorem d_L_law_1181 : decode code 1181 = .ok (.invokevirtual 83, 3) := by decide +kernel
theorem d_L_law_1184 : decode code 1184 = .ok (.iload 5, 2) := by decide +kernel
theorem d_L_law_1186 : decode code 1186 = .ok (.if_icmp .eq 5, 3) := by decide +kernel
theorem d_L_law_1189 : decode code 1189 = .ok (.iconst 0, 1) := by decide +kernel
theorem d_L_law_1190 : decode code 1190 = .ok (.ireturn, 1) := by decide +kernel
theorem d_L_law_1191 : decode code 1191 = .ok (.iload 5, 2) := by decide +kernel
theorem d_L_law_1193 : decode code 1193 = .ok (.ifCond .ne 15, 3) := by decide +kernel
theorem d_L_law_1196 : decode code 1196 = .ok (.aload_n 3, 1) := by decide +kernel
theorem d_L_law_1197 : decode code 1197 = .ok (.iconst 0, 1) := by decide +kernel
theorem d_L_law_1198 : decode code 1198 = .ok (.laload, 1) := by decide +kernel
theorem d_L_law_1199 : decode code 1199 = .ok (.iload 6, 2) := by decide +kernel
theorem d_L_law_1201 : decode code 1201 = .ok (.i2l, 1) := by decide +kernel
theorem d_L_law_1202 : decode code 1202 = .ok (.lcmp, 1) := by decide +kernel
theorem d_L_law_1203 : decode code 1203 = .ok (.ifCond .eq 5, 3) := by decide +kernel
theorem d_L_law_1206 : decode code 1206 = .ok (.iconst 0, 1) := by decide +kernel
theorem d_L_law_1207 : decode code 1207 = .ok (.ireturn, 1) := by decide +kernel
theorem d_L_law_1208 : decode code 1208 = .ok (.goto 127, 3) := by decide +kernel
theorem d_L_law_1211 : decode code 1211 = .ok (.aload_n 1, 1) := by decide +kernel
theorem d_L_law_1212 : decode code 1212 = .ok (.aload_n 0, 1) := by decide +kernel
theorem d_L_law_1213 : decode code 1213 = .ok (.iload 4, 2) := by decide +kernel
theorem d_L_law_1215 : decode code 1215 = .ok (.iconst 1, 1) := by decide +kernel
theorem d_L_law_1216 : decode code 1216 = .ok (.iadd, 1) := by decide +kernel
theorem d_L_law_1217 : decode code 1217 = .ok (.iaload, 1) := by decide +kernel
theorem d_L_law_1218 : decode code 1218 = .ok (.aload_n 3, 1) := by decide +kernel
theorem d_L_law_1219 : decode code 1219 = .ok (.invokestatic 132, 3) := by decide +kernel
theorem d_L_law_1222 : decode code 1222 = .ok (.istore 5, 2) := by decide +kernel
theorem d_L_law_1224 : decode code 1224 = .ok (.aload_n 2, 1) := by decide +kernel
theorem d_L_law_1225 : decode code 1225 = .ok (.aload_n 0, 1) := by decide +kernel
theorem d_L_law_1226 : decode code 1226 = .ok (.iload 4, 2) := by decide +kernel
theorem d_L_law_1228 : decode code 1228 = .ok (.iconst 1, 1) := by decide +kernel
theorem d_L_law_1229 : decode code 1229 = .ok (.iadd, 1) := by decide +kernel
theorem d_L_law_1230 : decode code 1230 = .ok (.iaload, 1) := by decide +kernel
theorem d_L_law_1231 : decode code 1231 = .ok (.invokevirtual 134, 3) := by decide +kernel
theorem d_L_law_1234 : decode code 1234 = .ok (.istore 6, 2) := by decide +kernel
theorem d_L_law_1236 : decode code 1236 = .ok (.aload_n 2, 1) := by decide +kernel
theorem d_L_law_1237 : decode code 1237 = .ok (.invokevirtual 83, 3) := by decide +kernel
theorem d_L_law_1240 : decode code 1240 = .ok (.iload 5, 2) := by decide +kernel
theorem d_L_law_1242 : decode code 1242 = .ok (.if_icmp .eq 5, 3) := by decide +kernel
theorem d_L_law_1245 : decode code 1245 = .ok (.iconst 0, 1) := by decide +kernel
theorem d_L_law_1246 : decode code 1246 = .ok (.ireturn, 1) := by decide +kernel
theorem d_L_law_1247 : decode code 1247 = .ok (.iload 5, 2) := by decide +kernel
theorem d_L_law_1249 : decode code 1249 = .ok (.ifCond .ne 15, 3) := by decide +kernel
theorem d_L_law_1252 : decode code 1252 = .ok (.aload_n 3, 1) := by decide +kernel
theorem d_L_law_1253 : decode code 1253 = .ok (.iconst 0, 1) := by decide +kernel
theorem d_L_law_1254 : decode code 1254 = .ok (.laload, 1) := by decide +kernel
theorem d_L_law_1255 : decode code 1255 = .ok (.iload 6, 2) := by decide +kernel
theorem d_L_law_1257 : decode code 1257 = .ok (.i2l, 1) := by decide +kernel
theorem d_L_law_1258 : decode code 1258 = .ok (.lcmp, 1) := by decide +kernel
theorem d_L_law_1259 : decode code 1259 = .ok (.ifCond .eq 5, 3) := by decide +kernel
theorem d_L_law_1262 : decode code 1262 = .ok (.iconst 0, 1) := by decide +kernel
theorem d_L_law_1263 : decode code 1263 = .ok (.ireturn, 1) := by decide +kernel
theorem d_L_law_1264 : decode code 1264 = .ok (.goto 71, 3) := by decide +kernel
theorem d_L_law_1267 : decode code 1267 = .ok (.aload_n 1, 1) := by decide +kernel
theorem d_L_law_1268 : decode code 1268 = .ok (.aload_n 0, 1) := by decide +kernel
theorem d_L_law_1269 : decode code 1269 = .ok (.iload 4, 2) := by decide +kernel
theorem d_L_law_1271 : decode code 1271 = .ok (.iconst 1, 1) := by decide +kernel
theorem d_L_law_1272 : decode code 1272 = .ok (.iadd, 1) := by decide +kernel
theorem d_L_law_1273 : decode code 1273 = .ok (.iaload, 1) := by decide +kernel
theorem d_L_law_1274 : decode code 1274 = .ok (.aload_n 0, 1) := by decide +kernel
theorem d_L_law_1275 : decode code 1275 = .ok (.iload 4, 2) := by decide +kernel
theorem d_L_law_1277 : decode code 1277 = .ok (.iconst 2, 1) := by decide +kernel
theorem d_L_law_1278 : decode code 1278 = .ok (.iadd, 1) := by decide +kernel
theorem d_L_law_1279 : decode code 1279 = .ok (.iaload, 1) := by decide +kernel
theorem d_L_law_1280 : decode code 1280 = .ok (.aload_n 3, 1) := by decide +kernel
theorem d_L_law_1281 : decode code 1281 = .ok (.invokestatic 135, 3) := by decide +kernel
theorem d_L_law_1284 : decode code 1284 = .ok (.istore 5, 2) := by decide +kernel
theorem d_L_law_1286 : decode code 1286 = .ok (.aload_n 2, 1) := by decide +kernel
theorem d_L_law_1287 : decode code 1287 = .ok (.aload_n 0, 1) := by decide +kernel
theorem d_L_law_1288 : decode code 1288 = .ok (.iload 4, 2) := by decide +kernel
theorem d_L_law_1290 : decode code 1290 = .ok (.iconst 1, 1) := by decide +kernel
theorem d_L_law_1291 : decode code 1291 = .ok (.iadd, 1) := by decide +kernel
theorem d_L_law_1292 : decode code 1292 = .ok (.iaload, 1) := by decide +kernel
theorem d_L_law_1293 : decode code 1293 = .ok (.aload_n 0, 1) := by decide +kernel
theorem d_L_law_1294 : decode code 1294 = .ok (.iload 4, 2) := by decide +kernel
theorem d_L_law_1296 : decode code 1296 = .ok (.iconst 2, 1) := by decide +kernel
theorem d_L_law_1297 : decode code 1297 = .ok (.iadd, 1) := by decide +kernel
theorem d_L_law_1298 : decode code 1298 = .ok (.iaload, 1) := by decide +kernel
theorem d_L_law_1299 : decode code 1299 = .ok (.invokevirtual 137, 3) := by decide +kernel
theorem d_L_law_1302 : decode code 1302 = .ok (.istore 6, 2) := by decide +kernel
theorem d_L_law_1304 : decode code 1304 = .ok (.aload_n 2, 1) := by decide +kernel
theorem d_L_law_1305 : decode code 1305 = .ok (.invokevirtual 83, 3) := by decide +kernel
theorem d_L_law_1308 : decode code 1308 = .ok (.iload 5, 2) := by decide +kernel
theorem d_L_law_1310 : decode code 1310 = .ok (.if_icmp .eq 5, 3) := by decide +kernel
theorem d_L_law_1313 : decode code 1313 = .ok (.iconst 0, 1) := by decide +kernel
theorem d_L_law_1314 : decode code 1314 = .ok (.ireturn, 1) := by decide +kernel
theorem d_L_law_1315 : decode code 1315 = .ok (.iload 5, 2) := by decide +kernel
theorem d_L_law_1317 : decode code 1317 = .ok (.ifCond .ne 15, 3) := by decide +kernel
theorem d_L_law_1320 : decode code 1320 = .ok (.aload_n 3, 1) := by decide +kernel
theorem d_L_law_1321 : decode code 1321 = .ok (.iconst 0, 1) := by decide +kernel
theorem d_L_law_1322 : decode code 1322 = .ok (.laload, 1) := by decide +kernel
theorem d_L_law_1323 : decode code 1323 = .ok (.iload 6, 2) := by decide +kernel
theorem d_L_law_1325 : decode code 1325 = .ok (.i2l, 1) := by decide +kernel
theorem d_L_law_1326 : decode code 1326 = .ok (.lcmp, 1) := by decide +kernel
theorem d_L_law_1327 : decode code 1327 = .ok (.ifCond .eq 5, 3) := by decide +kernel
theorem d_L_law_1330 : decode code 1330 = .ok (.iconst 0, 1) := by decide +kernel
theorem d_L_law_1331 : decode code 1331 = .ok (.ireturn, 1) := by decide +kernel
theorem d_L_law_1332 : decode code 1332 = .ok (.goto 3, 3) := by decide +kernel
theorem d_L_law_1335 : decode code 1335 = .ok (.iinc 4 7, 3) := by decide +kernel
theorem d_L_law_1338 : decode code 1338 = .ok (.goto (-1315), 3) := by decide +kernel
theorem d_L_law_1341 : decode code 1341 = .ok (.iconst 1, 1) := by decide +kernel
theorem d_L_law_1342 : decode code 1342 = .ok (.ireturn, 1) := by decide +kernel
end
section
/-- where a static field lies, its class's statics cell in H -/
def vx_L (C n d : String) (A : Nat → Prop) (U : State) (H : Heap) : Prop := ∃ (c : ClassId) (k : Class) (i : Nat) (f : Field) (a : Nat) (cell : Cell), U.vm.findClass C = some c ∧ U.fieldFound? C n d = some (c, k, i, f) ∧ f.isStatic = true ∧ k.statics = some a ∧ H[a]? = some cell ∧ cell.vm.isStatics = true ∧ cell.cls = c ∧ f.slot < cell.slots.size ∧ k.staticTypes[f.slot]? = some f.type ∧ ¬ A a
theorem vx_L.moved {C n d : String} {A : Nat → Prop} {u U : State} {H : Heap} (hvm : u.vm.Alike U.vm) (h : vx_L C n d A u H) : vx_L C n d A U H := by
  obtain ⟨c, k, i, f, a, cell, h1, h2, h3, h4, h5, h6, h7, h8, h9, h10⟩ := h
  obtain ⟨k', hi', he⟩ := State.fieldFound?_setVm hvm h2
  exact ⟨c, k', i, f, a, cell, by rw [hvm.findClass]; exact h1, hi', h3, by rw [he]; exact h4, h5, h6, h7, h8, by rw [he]; exact h9, h10⟩
theorem vx_L.kept {C n d : String} {A : Nat → Prop} {U : State} {H H1 : Heap} (h : vx_L C n d A U H) (hq : ∀ a : Nat, a < H.size → ¬ A a → H1[a]? = H[a]?) : vx_L C n d A U H1 := by
  obtain ⟨c, k, i, f, a, cell, h1, h2, h3, h4, h5, h6, h7, h8, h9, h10⟩ := h
  exact ⟨c, k, i, f, a, cell, h1, h2, h3, h4, by rw [hq a (Array.getElem?_eq_some_iff.mp h5).1 h10]; exact h5, h6, h7, h8, h9, h10⟩
theorem vx_L.narrow {C n d : String} {A B : Nat → Prop} {U : State} {H : Heap} (h : vx_L C n d A U H) (hAB : ∀ q, B q → A q) : vx_L C n d B U H := by
  obtain ⟨c, k, i, f, a, cell, h1, h2, h3, h4, h5, h6, h7, h8, h9, h10⟩ := h
  exact ⟨c, k, i, f, a, cell, h1, h2, h3, h4, h5, h6, h7, h8, h9, fun z => h10 (hAB _ z)⟩
theorem vx_L.word {C n d : String} {A : Nat → Prop} {s : State} {args : Array Value} (h : vx_L C n d A s s.heap) : (Cond.laysStatic C n d).before args s = true := by
  obtain ⟨c, k, i, f, a, cell, h1, h2, h3, h4, h5, h6, h7, h8, h9, -⟩ := h
  show (Cond.laysStatic C n d).holds args s none s [] = true
  exact Cond.laysStatic_of h1 h2 h3 h4 h5 h6 h7 h8 h9
/-- .. and what it holds: null or some reference -/
def vx_Zq (C n d : String) (A : Nat → Prop) (U : State) (H : Heap) : Prop := va_Zq C n d A U H ∧ vx_L C n d A U H
theorem vx_Zq.moved {C n d : String} {A : Nat → Prop} {u U : State} {H : Heap} (hvm : u.vm.Alike U.vm) (h : vx_Zq C n d A u H) : vx_Zq C n d A U H := ⟨va_Zq.moved hvm h.1, vx_L.moved hvm h.2⟩
theorem vx_Zq.kept {C n d : String} {A : Nat → Prop} {U : State} {H H1 : Heap} (h : vx_Zq C n d A U H) (hq : ∀ a : Nat, a < H.size → ¬ A a → H1[a]? = H[a]?) : vx_Zq C n d A U H1 := ⟨va_Zq.kept h.1 hq, vx_L.kept h.2 hq⟩
theorem vx_Zq.narrow {C n d : String} {A B : Nat → Prop} {U : State} {H : Heap} (h : vx_Zq C n d A U H) (hAB : ∀ q, B q → A q) : vx_Zq C n d B U H := ⟨va_Zq.narrow h.1 hAB, vx_L.narrow h.2 hAB⟩
theorem vx_Zqof {args : Array Value} {s : State} {C n d : String} {A : Nat → Prop} (hl : (Cond.laysStatic C n d).before args s = true) (hini : (Cond.initialized C).before args s = true) (h : (Cond.isRef (.static C n d)).before args s = true) (hA : ∀ a : Nat, a < s.heap.size → ¬ A a) : vx_Zq C n d A s s.heap := by
  refine ⟨va_Zqof hl hini h hA, ?_⟩
  obtain ⟨c, k, i, f, a, cell, h1, h2, h3, h4, h5, h6, h7, h8, h9⟩ := Cond.laysStatic_spec hl
  exact ⟨c, k, i, f, a, cell, h1, h2, h3, h4, h5, h6, h7, h8, h9, hA a (Array.getElem?_eq_some_iff.mp h5).1⟩
theorem vx_isRef {C n d : String} {v : Value} {A : Nat → Prop} {s : State} {args : Array Value} (h : va_Z C n d v A s s.heap) (hv : v.isRef = true) : (Cond.isRef (.static C n d)).before args s = true := by
  obtain ⟨cf, kf, fi, f, a, cell, h1, h2, h3, h4, h5, h6, h7, -⟩ := h
  have he : (Term.static C n d).eval args s none [] s = some v := by
    simp [Term.eval, State.fieldNamed?, h1, h2, h4, h5, h6, h7]
  simp only [Cond.before, Cond.holds, Cond.value, he]
  cases v <;> simp_all [Value.isRef]
theorem vx_isRefq {C n d : String} {A : Nat → Prop} {s : State} {args : Array Value} (h : va_Zq C n d A s s.heap) : (Cond.isRef (.static C n d)).before args s = true := by
  rcases h with h | ⟨t, h⟩
  · exact vx_isRef h rfl
  · exact vx_isRef h rfl
/-! The base: one judgement G for a walk (machine, locals, stack, world), contracts CT for methods that return or throw. -/
section GB
/-- the constants of one invocation -/
abbrev KX : Type := Program × Launch × Env × Room × State × MethodId × Array Value × List Frame × Method × Code
abbrev xp (κ : KX) : Program := κ.1
abbrev xl (κ : KX) : Launch := κ.2.1
abbrev xe (κ : KX) : Env := κ.2.2.1
abbrev xR (κ : KX) : Room := κ.2.2.2.1
abbrev xs (κ : KX) : State := κ.2.2.2.2.1
abbrev xm (κ : KX) : MethodId := κ.2.2.2.2.2.1
abbrev xa (κ : KX) : Array Value := κ.2.2.2.2.2.2.1
abbrev xb (κ : KX) : List Frame := κ.2.2.2.2.2.2.2.1
abbrev xM (κ : KX) : Method := κ.2.2.2.2.2.2.2.2.1
abbrev xc (κ : KX) : Code := κ.2.2.2.2.2.2.2.2.2
abbrev kW (κ : KX) (H : Heap) (locs : List Loc) (cs sl : Nat) (Q : State → Prop) (g : JFrame) : Prop :=
  W (xp κ) (xl κ) (xe κ) (xR κ) (xs κ) (xm κ) (xa κ) (xb κ) (xM κ) (xc κ) H locs cs sl Q g
/-- the classes' numbers and slots, and the array classes' numbers -/
abbrev EX : Type := va_G × (Nat → ClassId)
/-- what ends a method: an exception's kind, or what it returns -/
abbrev OC : Type := Nat ⊕ Option Value
def xcN (z : Nat) : String := if z = 1 then "java/lang/IllegalArgumentException" else if z = 2 then "java/lang/IllegalStateException" else if z = 3 then "java/util/NoSuchElementException" else "java/lang/UnsupportedOperationException"
def Fs (A0 : Nat → Prop) (U : State) (H : Heap) : Prop := vx_Zq "java/lang/Throwable" "UNASSIGNED_STACK" "[Ljava/lang/StackTraceElement;" A0 U H ∧ vx_Zq "java/lang/Throwable" "SUPPRESSED_SENTINEL" "Ljava/util/List;" A0 U H
/-- what every method's start needs of the tables and of the statics -/
def Fc (δ : EX) (A0 : Nat → Prop) (U : State) : Prop := (∀ w ∈ gl, w.before #[] U = true) ∧ va_K δ.1 vwCl (tyl δ.2) U ∧ Fs A0 U U.heap
def XcAt (z x : Nat) (st t : State) : Prop := st.heap.size ≤ x ∧ ∃ cell : Cell, t.heap[x]? = some cell ∧ cell.vm = .none ∧ t.vm.findClass (xcN z) = some cell.cls
def Qx (δ : EX) (A0 : Nat → Prop) (P : OC → va_W → Prop) (st : State) (o : Outcome) (t : State) : Prop :=
  ∃ (r : OC) (w : va_W) (L : List Loc) (k n : Nat), P r w ∧ va_P δ.1 vwCl w t.heap ∧ (∀ q : Nat, q < st.heap.size → ¬ A0 q → t.heap[q]? = st.heap[q]?) ∧ st.WarmedH t.vm ∧ st.sameButNew ({ t with vm := st.vm } : State) L k n ∧ (∀ q ∈ L, A0 q.base ∨ st.heap.size ≤ q.base) ∧
    match r with
    | .inr v => o = .returned v ∧ k = 0 ∧ n = 0
    | .inl z => k = 1 ∧ n = 6 ∧ ∃ x : Nat, o = .threw x ∧ XcAt z x st t
/-- the locals that a store leaves -/
def lvR1 (i : Nat) (lv : List (Nat × Value)) : List (Nat × Value) := lv.filter (fun q => !(q.1 == i) && !(q.1 + 1 == i && q.2.category == 2))
def lvR2 (i : Nat) (lv : List (Nat × Value)) : List (Nat × Value) := lv.filter (fun q => !(q.1 == i) && (!(q.1 == i + 1) && !(q.1 + 1 == i && q.2.category == 2)))
theorem lv_lookm {lv : List (Nat × Value)} {i : Nat} {v : Value} (h : lv.lookup i = some v) : (i, v) ∈ lv := by
  induction lv with
  | nil => cases h
  | cons q r ih =>
    obtain ⟨j, u⟩ := q
    rw [List.lookup_cons] at h
    by_cases hij : i = j
    · subst hij
      simp at h
      subst h
      exact List.mem_cons_self
    · have hb : (i == j) = false := by simpa using hij
      rw [hb] at h
      exact List.mem_cons_of_mem _ (ih h)
theorem lv_look {ls : Array Slot} {nL : Nat} {lv : List (Nat × Value)} {i : Nat} {v : Value} (h : lv_has ls nL lv) (hl : lv.lookup i = some v) : ls[i]? = some (.val v) := h.2.2 (i, v) (lv_lookm hl)
/-- fewer locals -/
def lvSub : List (Nat × Value) → List (Nat × Value) → Prop
  | [], _ => True
  | q :: r, lv => lv.lookup q.1 = some q.2 ∧ lvSub r lv
theorem lvSub.has {ls : Array Slot} {nL : Nat} {lv : List (Nat × Value)} (h : lv_has ls nL lv) : ∀ lv' : List (Nat × Value), lvSub lv' lv → lv_has ls nL lv'
  | [], _ => ⟨h.1, h.2.1, fun _ hq => by cases hq⟩
  | q :: r, hs => ⟨h.1, h.2.1, fun z hz => by
      rcases List.mem_cons.mp hz with rfl | hz
      · exact lv_look h hs.1
      · exact (lvSub.has h r hs.2).2.2 z hz⟩
abbrev Qe (κ : KX) (δ : EX) (A0 : Nat → Prop) (P : OC → va_W → Prop) : State → Prop := fun t => ∃ o, t.status = .running ∧ Ended t (xb κ) o ∧ Qx δ A0 P (xs κ) o t
/-- the contract of a method -/
def CT (l : Launch) (y : MethodName) (cw : Cond) (rm : Room) (δ : EX) (A0 : Nat → Prop) (ws : va_W) (av : List Value) (P : OC → va_W → Prop) : Prop :=
  MetFree l y (headSpec [cw] rm) (fun a U => a = av.toArray ∧ Fc δ A0 U ∧ va_P δ.1 vwCl ws U.heap) (fun _ _ _ _ _ => True) (fun _ st o t => Qx δ A0 P st o t)
/-- how the heap may have moved since the entry: by writing to A0 and to new cells; or not at all -/
def Kn (κ : KX) (A0 : Nat → Prop) : Heap → List Loc → Prop := fun H locs => va_S (fun q => A0 q ∨ (xs κ).heap.size ≤ q) (xs κ).heap H locs
def Kp (κ : KX) : Heap → List Loc → Prop := fun H locs => H = (xs κ).heap ∧ locs = []
/-- the walk -/
def G (κ : KX) (nL : Nat) (δ : EX) (K : Heap → List Loc → Prop) (Q : State → Prop) (cs sl : Nat) (ws : va_W) (lv : List (Nat × Value)) (st : List Value) (pc : Nat) : Prop :=
  ∀ (H : Heap) (locs : List Loc) (ls : Array Slot), lv_has ls nL lv → va_P δ.1 vwCl ws H → K H locs → kW κ H locs cs sl Q (F0 (xm κ) pc ls st)
/-- what holds of the invocation -/
def XO (κ : KX) (own : String) (cc : ByteArray) (nL : Nat) (rt : Option FieldType) (δ : EX) (rm : Room) (A0 : Nat → Prop) (hh : List (Nat × Nat × Nat × Nat)) : Prop :=
  (xp κ).tables.exec = Jvm.exec ∧ (xc κ).code = cc ∧ (xc κ).maxLocals = nL ∧ (xs κ).vm.findClass own = some (xm κ).cls ∧ (∀ w ∈ gl, w.before (xa κ) (xs κ) = true) ∧ (xM κ).locks = false ∧ (xM κ).sig.returnType = rt ∧ xR κ = rm ∧ va_K δ.1 vwCl (tyl δ.2) (xs κ) ∧ Fs A0 (xs κ) (xs κ).heap ∧ (xc κ).exceptionTable.toList.map (fun h => (h.startPc, h.endPc, h.handlerPc, h.catchType)) = hh ∧ (xl κ).stackTraces = false
variable {κ : KX} {own : String} {cc : ByteArray} {nL : Nat} {rt : Option FieldType} {δ : EX} {rm : Room} {A0 : Nat → Prop} {hh : List (Nat × Nat × Nat × Nat)} {K : Heap → List Loc → Prop} {Q : State → Prop} {cs sl : Nat} {ws : va_W} {lv : List (Nat × Value)} {st : List Value} {pc : Nat}
theorem XO.ml (X : XO κ own cc nL rt δ rm A0 hh) : (xc κ).maxLocals = nL := X.2.2.1
theorem XO.ow (X : XO κ own cc nL rt δ rm A0 hh) : (xs κ).vm.findClass own = some (xm κ).cls := X.2.2.2.1
theorem XO.wd (X : XO κ own cc nL rt δ rm A0 hh) {w : Cond} (h : w ∈ gl) : w.before (xa κ) (xs κ) = true := X.2.2.2.2.1 w h
theorem XO.locks (X : XO κ own cc nL rt δ rm A0 hh) : (xM κ).locks = false := X.2.2.2.2.2.1
theorem XO.ret (X : XO κ own cc nL rt δ rm A0 hh) : (xM κ).sig.returnType = rt := X.2.2.2.2.2.2.1
theorem XO.room (X : XO κ own cc nL rt δ rm A0 hh) : xR κ = rm := X.2.2.2.2.2.2.2.1
theorem XO.kk (X : XO κ own cc nL rt δ rm A0 hh) : va_K δ.1 vwCl (tyl δ.2) (xs κ) := X.2.2.2.2.2.2.2.2.1
theorem XO.Z (X : XO κ own cc nL rt δ rm A0 hh) : Fs A0 (xs κ) (xs κ).heap := X.2.2.2.2.2.2.2.2.2.1
theorem XO.hand (X : XO κ own cc nL rt δ rm A0 hh) : (xc κ).exceptionTable.toList.map (fun h => (h.startPc, h.endPc, h.handlerPc, h.catchType)) = hh := X.2.2.2.2.2.2.2.2.2.2.1
theorem XO.tr (X : XO κ own cc nL rt δ rm A0 hh) : (xl κ).stackTraces = false := X.2.2.2.2.2.2.2.2.2.2.2
/-- fewer locals; another name for the top -/
theorem g_sub {lv' : List (Nat × Value)} (hs : lvSub lv' lv) (n : G κ nL δ K Q cs sl ws lv' st pc) : G κ nL δ K Q cs sl ws lv st pc :=
  fun H locs ls h hP hK => n H locs ls (lvSub.has h lv' hs) hP hK
theorem g_ei {x y : Int32} (he : x = y) (n : G κ nL δ K Q cs sl ws lv (.int y :: st) pc) : G κ nL δ K Q cs sl ws lv (.int x :: st) pc := he ▸ n
theorem g_el {x y : Int64} (he : x = y) (n : G κ nL δ K Q cs sl ws lv (.long y :: st) pc) : G κ nL δ K Q cs sl ws lv (.long x :: st) pc := he ▸ n
theorem g_es {st' : List Value} (he : st = st') (n : G κ nL δ K Q cs sl ws lv st' pc) : G κ nL δ K Q cs sl ws lv st pc := he ▸ n
theorem g_ew {ws' : va_W} (he : ws = ws') (n : G κ nL δ K Q cs sl ws' lv st pc) : G κ nL δ K Q cs sl ws lv st pc := he ▸ n
end GB
end
section
section GR
variable {κ : KX} {own : String} {cc : ByteArray} {nL : Nat} {rt : Option FieldType} {δ : EX} {rm : Room} {A0 : Nat → Prop} {hh : List (Nat × Nat × Nat × Nat)} {K : Heap → List Loc → Prop} {Q : State → Prop} {cs sl : Nat} {ws : va_W} {lv : List (Nat × Value)} {st : List Value} {pc : Nat}
theorem g_iconst (X : XO κ own cc nL rt δ rm A0 hh) {i : Int} {v : Int32} (hd : decode cc pc = .ok (.iconst i, 1)) (hv : Int32.ofInt i = v) (n : G κ nL δ K Q cs sl ws lv (.int v :: st) (pc + 1)) : G κ nL δ K Q cs sl ws lv (st) pc :=
  fun H locs ls h hP hK => lv_iconst X.1 X.2.1 hd hv (n H locs ls h hP hK)
theorem g_bipush (X : XO κ own cc nL rt δ rm A0 hh) {i : Int} {v : Int32} (hd : decode cc pc = .ok (.bipush i, 2)) (hv : (Int8.ofInt i).toInt32 = v) (n : G κ nL δ K Q cs sl ws lv (.int v :: st) (pc + 2)) : G κ nL δ K Q cs sl ws lv (st) pc :=
  fun H locs ls h hP hK => lv_bipush X.1 X.2.1 hd hv (n H locs ls h hP hK)
theorem g_sipush (X : XO κ own cc nL rt δ rm A0 hh) {i : Int} {v : Int32} (hd : decode cc pc = .ok (.sipush i, 3)) (hv : (Int16.ofInt i).toInt32 = v) (n : G κ nL δ K Q cs sl ws lv (.int v :: st) (pc + 3)) : G κ nL δ K Q cs sl ws lv (st) pc :=
  fun H locs ls h hP hK => lv_sipush X.1 X.2.1 hd hv (n H locs ls h hP hK)
theorem g_lconst (X : XO κ own cc nL rt δ rm A0 hh) {i : Fin 2} {v : Int64} (hd : decode cc pc = .ok (.lconst i, 1)) (hv : Int64.ofNat (i : Nat) = v) (n : G κ nL δ K Q cs sl ws lv (.long v :: st) (pc + 1)) : G κ nL δ K Q cs sl ws lv (st) pc :=
  fun H locs ls h hP hK => lv_lconst X.1 X.2.1 hd hv (n H locs ls h hP hK)
theorem g_iload_n (X : XO κ own cc nL rt δ rm A0 hh) (i : Nat) {k : Fin 4} {x : Int32} (hd : decode cc pc = .ok (.iload_n k, 1)) (hi : (k : Nat) = i) (hl : lv.lookup i = some (.int x)) (n : G κ nL δ K Q cs sl ws lv (.int x :: st) (pc + 1)) : G κ nL δ K Q cs sl ws lv (st) pc :=
  fun H locs ls h hP hK => lv_iload_n X.1 X.2.1 hd hi (lv_look h hl) (n H locs ls h hP hK)
theorem g_iload (X : XO κ own cc nL rt δ rm A0 hh) {k : Nat} {x : Int32} (hd : decode cc pc = .ok (.iload k, 2)) (hl : lv.lookup k = some (.int x)) (n : G κ nL δ K Q cs sl ws lv (.int x :: st) (pc + 2)) : G κ nL δ K Q cs sl ws lv (st) pc :=
  fun H locs ls h hP hK => lv_iload X.1 X.2.1 hd (lv_look h hl) (n H locs ls h hP hK)
theorem g_istore_n (X : XO κ own cc nL rt δ rm A0 hh) (i : Nat) {k : Fin 4} {x : Int32} (hd : decode cc pc = .ok (.istore_n k, 1)) (hi : (k : Nat) = i) (hn : i < nL) (n : G κ nL δ K Q cs sl ws ((i, Value.int x) :: lvR1 i lv) st (pc + 1)) : G κ nL δ K Q cs sl ws lv (.int x :: st) pc :=
  fun H locs ls h hP hK => lv_istore_n X.1 X.2.1 hd hi h hn rfl (fun ls' h' => n H locs ls' h' hP hK)
theorem g_istore (X : XO κ own cc nL rt δ rm A0 hh) {k : Nat} {x : Int32} (hd : decode cc pc = .ok (.istore k, 2)) (hn : k < nL) (n : G κ nL δ K Q cs sl ws ((k, Value.int x) :: lvR1 k lv) st (pc + 2)) : G κ nL δ K Q cs sl ws lv (.int x :: st) pc :=
  fun H locs ls h hP hK => lv_istore X.1 X.2.1 hd h hn rfl (fun ls' h' => n H locs ls' h' hP hK)
theorem g_lload_n (X : XO κ own cc nL rt δ rm A0 hh) (i : Nat) {k : Fin 4} {x : Int64} (hd : decode cc pc = .ok (.lload_n k, 1)) (hi : (k : Nat) = i) (hl : lv.lookup i = some (.long x)) (n : G κ nL δ K Q cs sl ws lv (.long x :: st) (pc + 1)) : G κ nL δ K Q cs sl ws lv (st) pc :=
  fun H locs ls h hP hK => lv_lload_n X.1 X.2.1 hd hi (lv_look h hl) (n H locs ls h hP hK)
theorem g_lload (X : XO κ own cc nL rt δ rm A0 hh) {k : Nat} {x : Int64} (hd : decode cc pc = .ok (.lload k, 2)) (hl : lv.lookup k = some (.long x)) (n : G κ nL δ K Q cs sl ws lv (.long x :: st) (pc + 2)) : G κ nL δ K Q cs sl ws lv (st) pc :=
  fun H locs ls h hP hK => lv_lload X.1 X.2.1 hd (lv_look h hl) (n H locs ls h hP hK)
theorem g_lstore_n (X : XO κ own cc nL rt δ rm A0 hh) (i : Nat) {k : Fin 4} {x : Int64} (hd : decode cc pc = .ok (.lstore_n k, 1)) (hi : (k : Nat) = i) (hn : i + 1 < nL) (n : G κ nL δ K Q cs sl ws ((i, Value.long x) :: lvR2 i lv) st (pc + 1)) : G κ nL δ K Q cs sl ws lv (.long x :: st) pc :=
  fun H locs ls h hP hK => lv_lstore_n X.1 X.2.1 hd hi h hn rfl (fun ls' h' => n H locs ls' h' hP hK)
theorem g_lstore (X : XO κ own cc nL rt δ rm A0 hh) {k : Nat} {x : Int64} (hd : decode cc pc = .ok (.lstore k, 2)) (hn : k + 1 < nL) (n : G κ nL δ K Q cs sl ws ((k, Value.long x) :: lvR2 k lv) st (pc + 2)) : G κ nL δ K Q cs sl ws lv (.long x :: st) pc :=
  fun H locs ls h hP hK => lv_lstore X.1 X.2.1 hd h hn rfl (fun ls' h' => n H locs ls' h' hP hK)
theorem g_aload_n (X : XO κ own cc nL rt δ rm A0 hh) (i : Nat) {k : Fin 4} {x : Nat} (hd : decode cc pc = .ok (.aload_n k, 1)) (hi : (k : Nat) = i) (hl : lv.lookup i = some (.ref x)) (n : G κ nL δ K Q cs sl ws lv (.ref x :: st) (pc + 1)) : G κ nL δ K Q cs sl ws lv (st) pc :=
  fun H locs ls h hP hK => lv_aload_n X.1 X.2.1 hd hi (lv_look h hl) (n H locs ls h hP hK)
theorem g_aload (X : XO κ own cc nL rt δ rm A0 hh) {k : Nat} {x : Nat} (hd : decode cc pc = .ok (.aload k, 2)) (hl : lv.lookup k = some (.ref x)) (n : G κ nL δ K Q cs sl ws lv (.ref x :: st) (pc + 2)) : G κ nL δ K Q cs sl ws lv (st) pc :=
  fun H locs ls h hP hK => lv_aload X.1 X.2.1 hd (lv_look h hl) (n H locs ls h hP hK)
theorem g_astore_n (X : XO κ own cc nL rt δ rm A0 hh) (i : Nat) {k : Fin 4} {x : Nat} (hd : decode cc pc = .ok (.astore_n k, 1)) (hi : (k : Nat) = i) (hn : i < nL) (n : G κ nL δ K Q cs sl ws ((i, Value.ref x) :: lvR1 i lv) st (pc + 1)) : G κ nL δ K Q cs sl ws lv (.ref x :: st) pc :=
  fun H locs ls h hP hK => lv_astore_n X.1 X.2.1 hd hi h hn rfl (fun ls' h' => n H locs ls' h' hP hK)
theorem g_astore (X : XO κ own cc nL rt δ rm A0 hh) {k : Nat} {x : Nat} (hd : decode cc pc = .ok (.astore k, 2)) (hn : k < nL) (n : G κ nL δ K Q cs sl ws ((k, Value.ref x) :: lvR1 k lv) st (pc + 2)) : G κ nL δ K Q cs sl ws lv (.ref x :: st) pc :=
  fun H locs ls h hP hK => lv_astore X.1 X.2.1 hd h hn rfl (fun ls' h' => n H locs ls' h' hP hK)
theorem g_iadd (X : XO κ own cc nL rt δ rm A0 hh) {x y : Int32} (hd : decode cc pc = .ok (.iadd, 1)) (n : G κ nL δ K Q cs sl ws lv (.int (x + y) :: st) (pc + 1)) : G κ nL δ K Q cs sl ws lv (.int y :: .int x :: st) pc :=
  fun H locs ls h hP hK => lv_iadd X.1 X.2.1 hd (n H locs ls h hP hK)
theorem g_isub (X : XO κ own cc nL rt δ rm A0 hh) {x y : Int32} (hd : decode cc pc = .ok (.isub, 1)) (n : G κ nL δ K Q cs sl ws lv (.int (x - y) :: st) (pc + 1)) : G κ nL δ K Q cs sl ws lv (.int y :: .int x :: st) pc :=
  fun H locs ls h hP hK => lv_isub X.1 X.2.1 hd (n H locs ls h hP hK)
theorem g_imul (X : XO κ own cc nL rt δ rm A0 hh) {x y : Int32} (hd : decode cc pc = .ok (.imul, 1)) (n : G κ nL δ K Q cs sl ws lv (.int (x * y) :: st) (pc + 1)) : G κ nL δ K Q cs sl ws lv (.int y :: .int x :: st) pc :=
  fun H locs ls h hP hK => lv_imul X.1 X.2.1 hd (n H locs ls h hP hK)
theorem g_iand (X : XO κ own cc nL rt δ rm A0 hh) {x y : Int32} (hd : decode cc pc = .ok (.iand, 1)) (n : G κ nL δ K Q cs sl ws lv (.int (x &&& y) :: st) (pc + 1)) : G κ nL δ K Q cs sl ws lv (.int y :: .int x :: st) pc :=
  fun H locs ls h hP hK => lv_iand X.1 X.2.1 hd (n H locs ls h hP hK)
theorem g_ior (X : XO κ own cc nL rt δ rm A0 hh) {x y : Int32} (hd : decode cc pc = .ok (.ior, 1)) (n : G κ nL δ K Q cs sl ws lv (.int (x ||| y) :: st) (pc + 1)) : G κ nL δ K Q cs sl ws lv (.int y :: .int x :: st) pc :=
  fun H locs ls h hP hK => lv_ior X.1 X.2.1 hd (n H locs ls h hP hK)
theorem g_idiv (X : XO κ own cc nL rt δ rm A0 hh) {x y : Int32} (hd : decode cc pc = .ok (.idiv, 1)) (hne : ¬ y = 0) (n : G κ nL δ K Q cs sl ws lv (.int (x / y) :: st) (pc + 1)) : G κ nL δ K Q cs sl ws lv (.int y :: .int x :: st) pc :=
  fun H locs ls h hP hK => lv_idiv X.1 X.2.1 hd hne (n H locs ls h hP hK)
theorem g_irem (X : XO κ own cc nL rt δ rm A0 hh) {x y : Int32} (hd : decode cc pc = .ok (.irem, 1)) (hne : ¬ y = 0) (n : G κ nL δ K Q cs sl ws lv (.int (x - x / y * y) :: st) (pc + 1)) : G κ nL δ K Q cs sl ws lv (.int y :: .int x :: st) pc :=
  fun H locs ls h hP hK => lv_irem X.1 X.2.1 hd hne (n H locs ls h hP hK)
theorem g_ineg (X : XO κ own cc nL rt δ rm A0 hh) {x : Int32} (hd : decode cc pc = .ok (.ineg, 1)) (n : G κ nL δ K Q cs sl ws lv (.int (-x) :: st) (pc + 1)) : G κ nL δ K Q cs sl ws lv (.int x :: st) pc :=
  fun H locs ls h hP hK => lv_ineg X.1 X.2.1 hd (n H locs ls h hP hK)
theorem g_ladd (X : XO κ own cc nL rt δ rm A0 hh) {x y : Int64} (hd : decode cc pc = .ok (.ladd, 1)) (n : G κ nL δ K Q cs sl ws lv (.long (x + y) :: st) (pc + 1)) : G κ nL δ K Q cs sl ws lv (.long y :: .long x :: st) pc :=
  fun H locs ls h hP hK => lv_ladd X.1 X.2.1 hd (n H locs ls h hP hK)
theorem g_lsub (X : XO κ own cc nL rt δ rm A0 hh) {x y : Int64} (hd : decode cc pc = .ok (.lsub, 1)) (n : G κ nL δ K Q cs sl ws lv (.long (x - y) :: st) (pc + 1)) : G κ nL δ K Q cs sl ws lv (.long y :: .long x :: st) pc :=
  fun H locs ls h hP hK => lv_lsub X.1 X.2.1 hd (n H locs ls h hP hK)
theorem g_lmul (X : XO κ own cc nL rt δ rm A0 hh) {x y : Int64} (hd : decode cc pc = .ok (.lmul, 1)) (n : G κ nL δ K Q cs sl ws lv (.long (x * y) :: st) (pc + 1)) : G κ nL δ K Q cs sl ws lv (.long y :: .long x :: st) pc :=
  fun H locs ls h hP hK => lv_lmul X.1 X.2.1 hd (n H locs ls h hP hK)
theorem g_land (X : XO κ own cc nL rt δ rm A0 hh) {x y : Int64} (hd : decode cc pc = .ok (.land, 1)) (n : G κ nL δ K Q cs sl ws lv (.long (x &&& y) :: st) (pc + 1)) : G κ nL δ K Q cs sl ws lv (.long y :: .long x :: st) pc :=
  fun H locs ls h hP hK => lv_land X.1 X.2.1 hd (n H locs ls h hP hK)
theorem g_lor (X : XO κ own cc nL rt δ rm A0 hh) {x y : Int64} (hd : decode cc pc = .ok (.lor, 1)) (n : G κ nL δ K Q cs sl ws lv (.long (x ||| y) :: st) (pc + 1)) : G κ nL δ K Q cs sl ws lv (.long y :: .long x :: st) pc :=
  fun H locs ls h hP hK => lv_lor X.1 X.2.1 hd (n H locs ls h hP hK)
theorem g_ldiv (X : XO κ own cc nL rt δ rm A0 hh) {x y : Int64} (hd : decode cc pc = .ok (.ldiv, 1)) (hne : ¬ y = 0) (n : G κ nL δ K Q cs sl ws lv (.long (x / y) :: st) (pc + 1)) : G κ nL δ K Q cs sl ws lv (.long y :: .long x :: st) pc :=
  fun H locs ls h hP hK => lv_ldiv X.1 X.2.1 hd hne (n H locs ls h hP hK)
theorem g_lneg (X : XO κ own cc nL rt δ rm A0 hh) {x : Int64} (hd : decode cc pc = .ok (.lneg, 1)) (n : G κ nL δ K Q cs sl ws lv (.long (-x) :: st) (pc + 1)) : G κ nL δ K Q cs sl ws lv (.long x :: st) pc :=
  fun H locs ls h hP hK => lv_lneg X.1 X.2.1 hd (n H locs ls h hP hK)
theorem g_i2l (X : XO κ own cc nL rt δ rm A0 hh) {x : Int32} (hd : decode cc pc = .ok (.i2l, 1)) (n : G κ nL δ K Q cs sl ws lv (.long x.toInt64 :: st) (pc + 1)) : G κ nL δ K Q cs sl ws lv (.int x :: st) pc :=
  fun H locs ls h hP hK => lv_i2l X.1 X.2.1 hd rfl (n H locs ls h hP hK)
theorem g_l2i (X : XO κ own cc nL rt δ rm A0 hh) {x : Int64} (hd : decode cc pc = .ok (.l2i, 1)) (n : G κ nL δ K Q cs sl ws lv (.int x.toInt32 :: st) (pc + 1)) : G κ nL δ K Q cs sl ws lv (.long x :: st) pc :=
  fun H locs ls h hP hK => lv_l2i X.1 X.2.1 hd rfl (n H locs ls h hP hK)
theorem g_lshl (X : XO κ own cc nL rt δ rm A0 hh) {x : Int64} {y : Int32} (hd : decode cc pc = .ok (.lshl, 1)) (n : G κ nL δ K Q cs sl ws lv (.long (x <<< (y.toInt64 &&& 63)) :: st) (pc + 1)) : G κ nL δ K Q cs sl ws lv (.int y :: .long x :: st) pc :=
  fun H locs ls h hP hK => lv_lshl X.1 X.2.1 hd rfl (n H locs ls h hP hK)
theorem g_lcmp (X : XO κ own cc nL rt δ rm A0 hh) {x y : Int64} (hd : decode cc pc = .ok (.lcmp, 1)) (n : G κ nL δ K Q cs sl ws lv (.int (lg_cmp x y) :: st) (pc + 1)) : G κ nL δ K Q cs sl ws lv (.long y :: .long x :: st) pc :=
  fun H locs ls h hP hK => W.lcmp X.1 X.2.1 hd (n H locs ls h hP hK)
theorem g_dup (X : XO κ own cc nL rt δ rm A0 hh) {v : Value} (hd : decode cc pc = .ok (.dup, 1)) (hv : v.category = 1) (n : G κ nL δ K Q cs sl ws lv (v :: v :: st) (pc + 1)) : G κ nL δ K Q cs sl ws lv (v :: st) pc :=
  fun H locs ls h hP hK => lv_dup X.1 X.2.1 hd hv (n H locs ls h hP hK)
theorem g_pop (X : XO κ own cc nL rt δ rm A0 hh) {v : Value} (hd : decode cc pc = .ok (.pop, 1)) (hv : v.category = 1) (n : G κ nL δ K Q cs sl ws lv (st) (pc + 1)) : G κ nL δ K Q cs sl ws lv (v :: st) pc :=
  fun H locs ls h hP hK => lv_pop X.1 X.2.1 hd hv (n H locs ls h hP hK)
theorem g_dup_x1 (X : XO κ own cc nL rt δ rm A0 hh) {v u : Value} (hd : decode cc pc = .ok (.dup_x1, 1)) (hv : v.category = 1) (hu : u.category = 1) (n : G κ nL δ K Q cs sl ws lv (v :: u :: v :: st) (pc + 1)) : G κ nL δ K Q cs sl ws lv (v :: u :: st) pc :=
  fun H locs ls h hP hK => lv_dup_x1 X.1 X.2.1 hd hv hu (n H locs ls h hP hK)
theorem g_dup2_11 (X : XO κ own cc nL rt δ rm A0 hh) {v u : Value} (hd : decode cc pc = .ok (.dup2, 1)) (hv : v.category = 1) (hu : u.category = 1) (n : G κ nL δ K Q cs sl ws lv (v :: u :: v :: u :: st) (pc + 1)) : G κ nL δ K Q cs sl ws lv (v :: u :: st) pc :=
  fun H locs ls h hP hK => lv_dup2_11 X.1 X.2.1 hd hv hu (n H locs ls h hP hK)
theorem g_dup2_2 (X : XO κ own cc nL rt δ rm A0 hh) {v : Value} (hd : decode cc pc = .ok (.dup2, 1)) (hv : v.category = 2) (n : G κ nL δ K Q cs sl ws lv (v :: v :: st) (pc + 1)) : G κ nL δ K Q cs sl ws lv (v :: st) pc :=
  fun H locs ls h hP hK => lv_dup2_2 X.1 X.2.1 hd hv (n H locs ls h hP hK)
theorem g_pop2_2 (X : XO κ own cc nL rt δ rm A0 hh) {v : Value} (hd : decode cc pc = .ok (.pop2, 1)) (hv : v.category = 2) (n : G κ nL δ K Q cs sl ws lv (st) (pc + 1)) : G κ nL δ K Q cs sl ws lv (v :: st) pc :=
  fun H locs ls h hP hK => lv_pop2_2 X.1 X.2.1 hd hv (n H locs ls h hP hK)
theorem g_if_eq (X : XO κ own cc nL rt δ rm A0 hh) {x : Int32} {off : Int} (tgt : Nat) (hd : decode cc pc = .ok (.ifCond .eq off, 3)) (ht : (pc : Int) + off = (tgt : Int)) (kt : x = 0 → G κ nL δ K Q cs sl ws lv st tgt) (kf : ¬ x = 0 → G κ nL δ K Q cs sl ws lv st (pc + 3)) : G κ nL δ K Q cs sl ws lv (.int x :: st) pc :=
  fun H locs ls h hP hK => lv_if_eq X.1 X.2.1 hd ht (fun q => kt q H locs ls h hP hK) (fun q => kf q H locs ls h hP hK)
theorem g_icmp_eq (X : XO κ own cc nL rt δ rm A0 hh) {x y : Int32} {off : Int} (tgt : Nat) (hd : decode cc pc = .ok (.if_icmp .eq off, 3)) (ht : (pc : Int) + off = (tgt : Int)) (kt : x = y → G κ nL δ K Q cs sl ws lv st tgt) (kf : ¬ x = y → G κ nL δ K Q cs sl ws lv st (pc + 3)) : G κ nL δ K Q cs sl ws lv (.int y :: .int x :: st) pc :=
  fun H locs ls h hP hK => lv_icmp_eq X.1 X.2.1 hd ht (fun q => kt q H locs ls h hP hK) (fun q => kf q H locs ls h hP hK)
theorem g_if_ne (X : XO κ own cc nL rt δ rm A0 hh) {x : Int32} {off : Int} (tgt : Nat) (hd : decode cc pc = .ok (.ifCond .ne off, 3)) (ht : (pc : Int) + off = (tgt : Int)) (kt : ¬ x = 0 → G κ nL δ K Q cs sl ws lv st tgt) (kf : x = 0 → G κ nL δ K Q cs sl ws lv st (pc + 3)) : G κ nL δ K Q cs sl ws lv (.int x :: st) pc :=
  fun H locs ls h hP hK => lv_if_ne X.1 X.2.1 hd ht (fun q => kt q H locs ls h hP hK) (fun q => kf q H locs ls h hP hK)
theorem g_icmp_ne (X : XO κ own cc nL rt δ rm A0 hh) {x y : Int32} {off : Int} (tgt : Nat) (hd : decode cc pc = .ok (.if_icmp .ne off, 3)) (ht : (pc : Int) + off = (tgt : Int)) (kt : ¬ x = y → G κ nL δ K Q cs sl ws lv st tgt) (kf : x = y → G κ nL δ K Q cs sl ws lv st (pc + 3)) : G κ nL δ K Q cs sl ws lv (.int y :: .int x :: st) pc :=
  fun H locs ls h hP hK => lv_icmp_ne X.1 X.2.1 hd ht (fun q => kt q H locs ls h hP hK) (fun q => kf q H locs ls h hP hK)
theorem g_if_lt (X : XO κ own cc nL rt δ rm A0 hh) {x : Int32} {off : Int} (tgt : Nat) (hd : decode cc pc = .ok (.ifCond .lt off, 3)) (ht : (pc : Int) + off = (tgt : Int)) (kt : x < 0 → G κ nL δ K Q cs sl ws lv st tgt) (kf : ¬ x < 0 → G κ nL δ K Q cs sl ws lv st (pc + 3)) : G κ nL δ K Q cs sl ws lv (.int x :: st) pc :=
  fun H locs ls h hP hK => lv_if_lt X.1 X.2.1 hd ht (fun q => kt q H locs ls h hP hK) (fun q => kf q H locs ls h hP hK)
theorem g_icmp_lt (X : XO κ own cc nL rt δ rm A0 hh) {x y : Int32} {off : Int} (tgt : Nat) (hd : decode cc pc = .ok (.if_icmp .lt off, 3)) (ht : (pc : Int) + off = (tgt : Int)) (kt : x < y → G κ nL δ K Q cs sl ws lv st tgt) (kf : ¬ x < y → G κ nL δ K Q cs sl ws lv st (pc + 3)) : G κ nL δ K Q cs sl ws lv (.int y :: .int x :: st) pc :=
  fun H locs ls h hP hK => lv_icmp_lt X.1 X.2.1 hd ht (fun q => kt q H locs ls h hP hK) (fun q => kf q H locs ls h hP hK)
theorem g_if_ge (X : XO κ own cc nL rt δ rm A0 hh) {x : Int32} {off : Int} (tgt : Nat) (hd : decode cc pc = .ok (.ifCond .ge off, 3)) (ht : (pc : Int) + off = (tgt : Int)) (kt : 0 ≤ x → G κ nL δ K Q cs sl ws lv st tgt) (kf : ¬ 0 ≤ x → G κ nL δ K Q cs sl ws lv st (pc + 3)) : G κ nL δ K Q cs sl ws lv (.int x :: st) pc :=
  fun H locs ls h hP hK => lv_if_ge X.1 X.2.1 hd ht (fun q => kt q H locs ls h hP hK) (fun q => kf q H locs ls h hP hK)
theorem g_icmp_ge (X : XO κ own cc nL rt δ rm A0 hh) {x y : Int32} {off : Int} (tgt : Nat) (hd : decode cc pc = .ok (.if_icmp .ge off, 3)) (ht : (pc : Int) + off = (tgt : Int)) (kt : y ≤ x → G κ nL δ K Q cs sl ws lv st tgt) (kf : ¬ y ≤ x → G κ nL δ K Q cs sl ws lv st (pc + 3)) : G κ nL δ K Q cs sl ws lv (.int y :: .int x :: st) pc :=
  fun H locs ls h hP hK => lv_icmp_ge X.1 X.2.1 hd ht (fun q => kt q H locs ls h hP hK) (fun q => kf q H locs ls h hP hK)
theorem g_if_gt (X : XO κ own cc nL rt δ rm A0 hh) {x : Int32} {off : Int} (tgt : Nat) (hd : decode cc pc = .ok (.ifCond .gt off, 3)) (ht : (pc : Int) + off = (tgt : Int)) (kt : 0 < x → G κ nL δ K Q cs sl ws lv st tgt) (kf : ¬ 0 < x → G κ nL δ K Q cs sl ws lv st (pc + 3)) : G κ nL δ K Q cs sl ws lv (.int x :: st) pc :=
  fun H locs ls h hP hK => lv_if_gt X.1 X.2.1 hd ht (fun q => kt q H locs ls h hP hK) (fun q => kf q H locs ls h hP hK)
theorem g_icmp_gt (X : XO κ own cc nL rt δ rm A0 hh) {x y : Int32} {off : Int} (tgt : Nat) (hd : decode cc pc = .ok (.if_icmp .gt off, 3)) (ht : (pc : Int) + off = (tgt : Int)) (kt : y < x → G κ nL δ K Q cs sl ws lv st tgt) (kf : ¬ y < x → G κ nL δ K Q cs sl ws lv st (pc + 3)) : G κ nL δ K Q cs sl ws lv (.int y :: .int x :: st) pc :=
  fun H locs ls h hP hK => lv_icmp_gt X.1 X.2.1 hd ht (fun q => kt q H locs ls h hP hK) (fun q => kf q H locs ls h hP hK)
theorem g_if_le (X : XO κ own cc nL rt δ rm A0 hh) {x : Int32} {off : Int} (tgt : Nat) (hd : decode cc pc = .ok (.ifCond .le off, 3)) (ht : (pc : Int) + off = (tgt : Int)) (kt : x ≤ 0 → G κ nL δ K Q cs sl ws lv st tgt) (kf : ¬ x ≤ 0 → G κ nL δ K Q cs sl ws lv st (pc + 3)) : G κ nL δ K Q cs sl ws lv (.int x :: st) pc :=
  fun H locs ls h hP hK => lv_if_le X.1 X.2.1 hd ht (fun q => kt q H locs ls h hP hK) (fun q => kf q H locs ls h hP hK)
theorem g_icmp_le (X : XO κ own cc nL rt δ rm A0 hh) {x y : Int32} {off : Int} (tgt : Nat) (hd : decode cc pc = .ok (.if_icmp .le off, 3)) (ht : (pc : Int) + off = (tgt : Int)) (kt : x ≤ y → G κ nL δ K Q cs sl ws lv st tgt) (kf : ¬ x ≤ y → G κ nL δ K Q cs sl ws lv st (pc + 3)) : G κ nL δ K Q cs sl ws lv (.int y :: .int x :: st) pc :=
  fun H locs ls h hP hK => lv_icmp_le X.1 X.2.1 hd ht (fun q => kt q H locs ls h hP hK) (fun q => kf q H locs ls h hP hK)
theorem g_goto (X : XO κ own cc nL rt δ rm A0 hh) {off : Int} (tgt : Nat) (hd : decode cc pc = .ok (.goto off, 3)) (ht : (pc : Int) + off = (tgt : Int)) (n : G κ nL δ K Q cs sl ws lv st tgt) : G κ nL δ K Q cs sl ws lv st pc :=
  fun H locs ls h hP hK => lv_goto X.1 X.2.1 hd ht (n H locs ls h hP hK)
theorem g_iinc (X : XO κ own cc nL rt δ rm A0 hh) {i : Nat} {a : Int} {x v : Int32} (hd : decode cc pc = .ok (.iinc i a, 3)) (hl : lv.lookup i = some (.int x)) (hv : x + Int32.ofInt a = v) (hn : i < nL) (n : G κ nL δ K Q cs sl ws ((i, Value.int v) :: lvR1 i lv) st (pc + 3)) : G κ nL δ K Q cs sl ws lv st pc :=
  fun H locs ls h hP hK => by
    obtain ⟨j, hj⟩ := List.getElem?_of_mem (lv_lookm hl)
    exact lv_iinc X.1 X.2.1 hd h hj hv hn rfl (fun ls' h' => n H locs ls' h' hP hK)
theorem g_ldc2 (X : XO κ own cc nL rt δ rm A0 hh) {i : Nat} {v : Int64} (hd : decode cc pc = .ok (.ldc2_w i, 3)) (hw : Cond.constantLong own i v ∈ gl) (n : G κ nL δ K Q cs sl ws lv (.long v :: st) (pc + 3)) : G κ nL δ K Q cs sl ws lv st pc :=
  fun H locs ls h hP hK => lv_ldc2 X.1 X.2.1 X.ow (X.wd hw) hd (n H locs ls h hP hK)
end GR
end
section
/-! fields and arrays -/
section GF
variable {κ : KX} {own : String} {cc : ByteArray} {nL : Nat} {rt : Option FieldType} {δ : EX} {rm : Room} {A0 : Nat → Prop} {hh : List (Nat × Nat × Nat × Nat)} {K : Heap → List Loc → Prop} {Q : State → Prop} {cs sl : Nat} {ws : va_W} {lv : List (Nat × Value)} {st : List Value} {pc : Nat}
theorem g_get (X : XO κ own cc nL rt δ rm A0 hh) {idx ci q0 k a : Nat} {fs : List Value} {C : String} {T : u_T} {N : Nat} {v : Value} (hin : ∀ w ∈ u_ws C T N, w ∈ gl) (hc : vwCl[ci]? = some (C, T, N)) (he : ws[q0]? = some (a, .inr (ci, fs))) (hk : k < N) (ho : (T k).1 = C) (hf : Cond.fieldLink own idx C (T k).2.1 (T k).2.2.1 ∈ gl) (hv : fs[k]? = some v) (hd : decode cc pc = .ok (.getfield idx, 3))
    (n : G κ nL δ K Q cs sl ws lv (v :: st) (pc + 3)) : G κ nL δ K Q cs sl ws lv (.ref a :: st) pc :=
  fun H locs ls h hP hK => va_get X.1 X.2.1 (fun w hw => X.wd hw) hin X.ow X.kk hP q0 he hc k hk (X.wd hf) (fun x hx => by rw [ho] at hx; exact hx) hv hd (n H locs ls h hP hK)
theorem g_put (X : XO κ own cc nL rt δ rm A0 hh) {idx ci q0 k a : Nat} {fs : List Value} {C : String} {T : u_T} {N : Nat} {v : Value} {ty0 : Nat → FieldType} {ty : FieldType} (hin : ∀ w ∈ u_ws C T N, w ∈ gl) (hc : vwCl[ci]? = some (C, T, N)) (hty : ∀ k, k < N → parseFieldDescriptor (T k).2.2.1 = some (ty0 k)) (hnm : ∀ a, a < N → ∀ b, b < N → a ≠ b → (T a).2.1 ≠ (T b).2.1)
    (hD : va_D (fun q => A0 q ∨ (xs κ).heap.size ≤ q) ws) (he : ws[q0]? = some (a, .inr (ci, fs))) (hk : k < N) (ho : (T k).1 = C) (hf : Cond.fieldLink own idx C (T k).2.1 (T k).2.2.1 ∈ gl) (hfin : (T k).2.2.2 = false) (hpt : parseFieldDescriptor (T k).2.2.1 = some ty) (hn : narrow ty v = v) (hfit : fits ty v = true) (hl : k < fs.length) (hd : decode cc pc = .ok (.putfield idx, 3))
    (n : G κ nL δ (Kn κ A0) Q cs sl (ws.set q0 (a, .inr (ci, fs.set k v))) lv st (pc + 3)) : G κ nL δ (Kn κ A0) Q cs sl ws lv (v :: .ref a :: st) pc :=
  fun H locs ls h hP hK => va_put X.1 X.2.1 (fun w hw => X.wd hw) hin ty0 hty hnm X.ow X.kk hP hD hK q0 he hc k hk (X.wd hf) (fun x hx => by rw [ho] at hx; exact hx) hfin hpt hn hfit hl hd (fun H1 locs1 h1 _ h3 => n H1 locs1 ls h h1 h3)
theorem g_iald (X : XO κ own cc nL rt δ rm A0 hh) {q0 a n j : Nat} {f : Nat → Int32} {i : Int32} (he : ws[q0]? = some (a, .inl (δ.2 0, n, .inl f))) (hi : i = nI j) (hj : j < n) (h31 : n < 2 ^ 31) (hd : decode cc pc = .ok (.iaload, 1)) (nx : G κ nL δ K Q cs sl ws lv (.int (f j) :: st) (pc + 1)) : G κ nL δ K Q cs sl ws lv (.int i :: .ref a :: st) pc := by
  subst hi
  exact fun H locs ls h hP hK => va_iald X.1 X.2.1 X.kk hP q0 0 he rfl (vp_in_nI hj h31) hd (by rw [nI_clamp (by omega)]; exact nx H locs ls h hP hK)
theorem g_lald (X : XO κ own cc nL rt δ rm A0 hh) {q0 a n j : Nat} {f : Nat → Int64} {i : Int32} (he : ws[q0]? = some (a, .inl (δ.2 1, n, .inr (.inl f)))) (hi : i = nI j) (hj : j < n) (h31 : n < 2 ^ 31) (hd : decode cc pc = .ok (.laload, 1)) (nx : G κ nL δ K Q cs sl ws lv (.long (f j) :: st) (pc + 1)) : G κ nL δ K Q cs sl ws lv (.int i :: .ref a :: st) pc := by
  subst hi
  exact fun H locs ls h hP hK => va_lald X.1 X.2.1 X.kk hP q0 1 he rfl (vp_in_nI hj h31) hd (by rw [nI_clamp (by omega)]; exact nx H locs ls h hP hK)
theorem g_zald (X : XO κ own cc nL rt δ rm A0 hh) {q0 a n j : Nat} {f : Nat → Int32} {i : Int32} (he : ws[q0]? = some (a, .inl (δ.2 2, n, .inl f))) (hi : i = nI j) (hj : j < n) (h31 : n < 2 ^ 31) (hd : decode cc pc = .ok (.baload, 1)) (nx : G κ nL δ K Q cs sl ws lv (.int (f j) :: st) (pc + 1)) : G κ nL δ K Q cs sl ws lv (.int i :: .ref a :: st) pc := by
  subst hi
  exact fun H locs ls h hP hK => va_zald X.1 X.2.1 X.kk hP q0 2 he rfl (vp_in_nI hj h31) hd (by rw [nI_clamp (by omega)]; exact nx H locs ls h hP hK)
theorem g_aald (X : XO κ own cc nL rt δ rm A0 hh) {q0 a n j b : Nat} {f : Nat → Option Nat} {i : Int32} (he : ws[q0]? = some (a, .inl (δ.2 3, n, .inr (.inr (.inr (.inr f)))))) (hi : i = nI j) (hj : j < n) (hb : f j = some b) (h31 : n < 2 ^ 31) (hd : decode cc pc = .ok (.aaload, 1)) (nx : G κ nL δ K Q cs sl ws lv (.ref b :: st) (pc + 1)) : G κ nL δ K Q cs sl ws lv (.int i :: .ref a :: st) pc := by
  subst hi
  exact fun H locs ls h hP hK => va_aldq X.1 X.2.1 X.kk hP q0 3 he rfl (vp_in_nI hj h31) hd (by rw [nI_clamp (by omega), hb]; exact nx H locs ls h hP hK)
theorem g_alen (X : XO κ own cc nL rt δ rm A0 hh) {q0 t0 a n : Nat} {ty : FieldType} {x : (Nat → Int32) ⊕ (Nat → Int64) ⊕ (Nat → UInt32) ⊕ (Nat → UInt64) ⊕ (Nat → Option Nat)} {cA : ClassId} (he : ws[q0]? = some (a, .inl (cA, n, x))) (ht : (tyl δ.2)[t0]? = some (cA, ty)) (hd : decode cc pc = .ok (.arraylength, 1)) (nx : G κ nL δ K Q cs sl ws lv (.int (nI n) :: st) (pc + 1)) : G κ nL δ K Q cs sl ws lv (.ref a :: st) pc :=
  fun H locs ls h hP hK => va_alen X.1 X.2.1 X.kk hP q0 t0 he ht rfl hd (nx H locs ls h hP hK)
theorem g_iast (X : XO κ own cc nL rt δ rm A0 hh) (hD : va_D (fun q => A0 q ∨ (xs κ).heap.size ≤ q) ws) {q0 a n j : Nat} {f : Nat → Int32} {i x : Int32} (he : ws[q0]? = some (a, .inl (δ.2 0, n, .inl f))) (hi : i = nI j) (hj : j < n) (h31 : n < 2 ^ 31) (hd : decode cc pc = .ok (.iastore, 1))
    (nx : G κ nL δ (Kn κ A0) Q cs sl (ws.set q0 (a, .inl (δ.2 0, n, .inl (upd f j x)))) lv st (pc + 1)) : G κ nL δ (Kn κ A0) Q cs sl ws lv (.int x :: .int i :: .ref a :: st) pc := by
  subst hi
  refine fun H locs ls h hP hK => va_iast X.1 X.2.1 X.kk hP hD hK q0 0 he rfl (vp_in_nI hj h31) hd (fun H1 locs1 h1 _ h3 => ?_)
  rw [nI_clamp (by omega)] at h1
  exact nx H1 locs1 ls h h1 h3
theorem g_last (X : XO κ own cc nL rt δ rm A0 hh) (hD : va_D (fun q => A0 q ∨ (xs κ).heap.size ≤ q) ws) {q0 a n j : Nat} {f : Nat → Int64} {i : Int32} {x : Int64} (he : ws[q0]? = some (a, .inl (δ.2 1, n, .inr (.inl f)))) (hi : i = nI j) (hj : j < n) (h31 : n < 2 ^ 31) (hd : decode cc pc = .ok (.lastore, 1))
    (nx : G κ nL δ (Kn κ A0) Q cs sl (ws.set q0 (a, .inl (δ.2 1, n, .inr (.inl (vp_updL f j x))))) lv st (pc + 1)) : G κ nL δ (Kn κ A0) Q cs sl ws lv (.long x :: .int i :: .ref a :: st) pc := by
  subst hi
  refine fun H locs ls h hP hK => va_last X.1 X.2.1 X.kk hP hD hK q0 1 he rfl (vp_in_nI hj h31) hd (fun H1 locs1 h1 _ h3 => ?_)
  rw [nI_clamp (by omega)] at h1
  exact nx H1 locs1 ls h h1 h3
theorem g_zast (X : XO κ own cc nL rt δ rm A0 hh) (hD : va_D (fun q => A0 q ∨ (xs κ).heap.size ≤ q) ws) {q0 a n j : Nat} {f : Nat → Int32} {i x y : Int32} (he : ws[q0]? = some (a, .inl (δ.2 2, n, .inl f))) (hi : i = nI j) (hj : j < n) (h31 : n < 2 ^ 31) (hx : vp_nar .boolean x = y) (hd : decode cc pc = .ok (.bastore, 1))
    (nx : G κ nL δ (Kn κ A0) Q cs sl (ws.set q0 (a, .inl (δ.2 2, n, .inl (upd f j y)))) lv st (pc + 1)) : G κ nL δ (Kn κ A0) Q cs sl ws lv (.int x :: .int i :: .ref a :: st) pc := by
  subst hi
  subst hx
  refine fun H locs ls h hP hK => va_zast X.1 X.2.1 X.kk hP hD hK q0 2 he rfl (vp_in_nI hj h31) hd (fun H1 locs1 h1 _ h3 => ?_)
  rw [nI_clamp (by omega)] at h1
  exact nx H1 locs1 ls h h1 h3
theorem g_aast (X : XO κ own cc nL rt δ rm A0 hh) (hD : va_D (fun q => A0 q ∨ (xs κ).heap.size ≤ q) ws) {q0 qk ci a n j v : Nat} {f : Nat → Option Nat} {vs : List Value} {T : u_T} {N : Nat} {i : Int32} (he : ws[q0]? = some (a, .inl (δ.2 3, n, .inr (.inr (.inr (.inr f)))))) (hv : ws[qk]? = some (v, .inr (ci, vs))) (hc : vwCl[ci]? = some (R_M, T, N)) (hi : i = nI j) (hj : j < n) (h31 : n < 2 ^ 31) (hd : decode cc pc = .ok (.aastore, 1))
    (nx : G κ nL δ (Kn κ A0) Q cs sl (ws.set q0 (a, .inl (δ.2 3, n, .inr (.inr (.inr (.inr (va_up f j (some v)))))))) lv st (pc + 1)) : G κ nL δ (Kn κ A0) Q cs sl ws lv (.ref v :: .int i :: .ref a :: st) pc := by
  subst hi
  refine fun H locs ls h hP hK => va_astq X.1 X.2.1 X.kk hP hD hK q0 3 qk ci he rfl hv hc (vp_in_nI hj h31) hd (fun H1 locs1 h1 _ h3 => ?_)
  rw [nI_clamp (by omega)] at h1
  exact nx H1 locs1 ls h h1 h3
end GF
end
section
/-! returns, contracts, calls -/
section GC
variable {κ : KX} {own : String} {cc : ByteArray} {nL : Nat} {rt : Option FieldType} {δ : EX} {rm : Room} {A0 : Nat → Prop} {hh : List (Nat × Nat × Nat × Nat)} {K : Heap → List Loc → Prop} {Q : State → Prop} {cs sl : Nat} {ws : va_W} {lv : List (Nat × Value)} {st : List Value} {pc : Nat} {P : OC → va_W → Prop}
theorem W_mono {p : Program} {l : Launch} {e : Env} {R : Room} {s : State} {m : MethodId} {args : Array Value} {below : List Frame} {meth : Method} {c : Code} {H : Heap} {locs : List Loc} {Q Q' : State → Prop} {g : JFrame} (hQ : ∀ t, Q t → Q' t) (h : W p l e R s m args below meth c H locs cs sl Q g) : W p l e R s m args below meth c H locs cs sl Q' g := fun T hT X => by
  obtain ⟨t, a, b⟩ := h T hT X
  exact ⟨t, a, hQ t b⟩
/-- K lets the heap move only where A0 says -/
def KOk (κ : KX) (A0 : Nat → Prop) (K : Heap → List Loc → Prop) : Prop := ∀ H locs, K H locs → Kn κ A0 H locs
theorem KOk.n : KOk κ A0 (Kn κ A0) := fun _ _ h => h
theorem KOk.p : KOk κ A0 (Kp κ) := fun _ _ h => by
  obtain ⟨rfl, rfl⟩ := h
  exact va_S.rf
theorem Kn.keep {H : Heap} {locs : List Loc} (h : Kn κ A0 H locs) : ∀ q : Nat, q < (xs κ).heap.size → ¬ A0 q → H[q]? = (xs κ).heap[q]? := fun q h1 h2 => h.2.1 q h1 (fun z => by
  rcases z with z | z
  · exact h2 z
  · omega)
theorem Qe_ret {H : Heap} {locs : List Loc} {v : Option Value} {t : State} (hKn : Kn κ A0 H locs) (hp : P (.inr v) ws) (hP : va_P δ.1 vwCl ws H)
    (h : MQ (xb κ) (fun _ _ o t => o = .returned v ∧ t.heap = H) (xa κ) (xs κ) 0 0 (fun q => A0 q ∨ (xs κ).heap.size ≤ q) t) : Qe κ δ A0 P t := by
  obtain ⟨o, h1, h2, ⟨rfl, rfl⟩, L, ⟨h3, h4, h5⟩, h6⟩ := h
  exact ⟨_, h1, h2, .inr v, ws, L, 0, 0, hp, hP, hKn.keep, h4, h5, h6, rfl, rfl, rfl⟩
theorem g_iret (X : XO κ own cc nL (some .int) δ rm A0 hh) (hK : KOk κ A0 K) {x : Int32} (hd : decode cc pc = .ok (.ireturn, 1)) (hp : P (.inr (some (.int x))) ws) : G κ nL δ K (Qe κ δ A0 P) 0 0 ws lv [.int x] pc :=
  fun H locs ls _ hP hk => W_mono (fun _ => Qe_ret (hK H locs hk) hp hP) (W.iret X.1 X.2.1 X.ret (fun t ht _ => ⟨rfl, ht⟩) (hK H locs hk).2.2 hd X.locks)
theorem g_lret (X : XO κ own cc nL (some .long) δ rm A0 hh) (hK : KOk κ A0 K) {x : Int64} (hd : decode cc pc = .ok (.lreturn, 1)) (hp : P (.inr (some (.long x))) ws) : G κ nL δ K (Qe κ δ A0 P) 0 0 ws lv [.long x] pc :=
  fun H locs ls _ hP hk => W_mono (fun _ => Qe_ret (hK H locs hk) hp hP) (W.lret X.1 X.2.1 X.ret (fun t ht _ => ⟨rfl, ht⟩) (hK H locs hk).2.2 hd X.locks)
theorem g_zret (X : XO κ own cc nL (some .boolean) δ rm A0 hh) (hK : KOk κ A0 K) {x : Int32} (hx : narrow .boolean (.int x) = .int x) (hd : decode cc pc = .ok (.ireturn, 1)) (hp : P (.inr (some (.int x))) ws) : G κ nL δ K (Qe κ δ A0 P) 0 0 ws lv [.int x] pc :=
  fun H locs ls _ hP hk => W_mono (fun _ => Qe_ret (hK H locs hk) hp hP) (W.zret X.1 X.2.1 X.ret hx (fun t ht _ => ⟨rfl, ht⟩) (hK H locs hk).2.2 hd X.locks)
theorem g_vret (X : XO κ own cc nL none δ rm A0 hh) (hK : KOk κ A0 K) (hd : decode cc pc = .ok (.return_, 1)) (hp : P (.inr none) ws) : G κ nL δ K (Qe κ δ A0 P) 0 0 ws lv [] pc :=
  fun H locs ls _ hP hk => W_mono (fun _ => Qe_ret (hK H locs hk) hp hP) (W.vret X.1 X.2.1 X.ret (fun t ht _ => ⟨rfl, ht⟩) (hK H locs hk).2.2 hd X.locks)
theorem g_aret {C : String} (X : XO κ own cc nL (some (.object C)) δ rm A0 hh) (hK : KOk κ A0 K) {a : Nat} (hd : decode cc pc = .ok (.areturn, 1)) (hp : P (.inr (some (.ref a))) ws) : G κ nL δ K (Qe κ δ A0 P) 0 0 ws lv [.ref a] pc :=
  fun H locs ls _ hP hk => W_mono (fun _ => Qe_ret (hK H locs hk) hp hP) (W.aret X.1 X.2.1 X.ret (Or.inl ⟨C, rfl⟩) (Or.inr ⟨a, rfl⟩) (fun t ht _ => ⟨rfl, ht⟩) (hK H locs hk).2.2 hd X.locks)
/-- a contract out of a walk -/
theorem CT.of {l : Launch} {y : MethodName} {cw : Cond} {av : List Value} (hcw : (cw = .code y cc nL rt ∧ hh = []) ∨ cw = .codeWith y cc nL rt hh) (hy : plainName y.cls = true) (htr : l.stackTraces = false) (hlv : lv_args 0 av = lv) (hlen : (lg_sl av).length ≤ nL)
    (body : ∀ κ : KX, xl κ = l → XO κ y.cls cc nL rt δ rm A0 hh → va_P δ.1 vwCl ws (xs κ).heap → ∀ ls, lv_has ls nL lv → kW κ (xs κ).heap [] 0 0 (Qe κ δ A0 P) (F0 (xm κ) 0 ls [])) : CT l y cw rm δ A0 ws av P := by
  refine MetFree.of_bodyS (code := cc) (maxLocals := nL) (ret := rt) hy ?_ ?_
  · intro args s m h hn
    have h1 : cw.before args s = true := atoms_spec (ws := [cw]) h cw List.mem_cons_self
    rcases hcw with ⟨rfl, -⟩ | rfl
    · obtain ⟨meth, c, h1, h2, h3, h4, h5, h6, -, -⟩ := Cond.code_spec hn h1
      exact ⟨meth, c, h1, h2, h3, h4, h5, h6⟩
    · obtain ⟨m', meth, c, hn', hm, hc, h3, h4, -, h5, h6, -⟩ := Cond.codeWith_spec h1
      cases hn.symm.trans hn'
      exact ⟨meth, c, hm, hc, h3, h4, h5, h6⟩
  · intro p e s m args below meth c s₁ B hml hPc _
    obtain ⟨rfl, hF, hP⟩ := hPc
    have h1 : cw.before av.toArray s = true := atoms_spec (ws := [cw]) B.pre cw List.mem_cons_self
    have X₀ : Stand p l e rm s m av.toArray below meth c s₁ [] 0 0 := Stand.of_body B
    have hand : c.exceptionTable.toList.map (fun h => (h.startPc, h.endPc, h.handlerPc, h.catchType)) = hh := by
      rcases hcw with ⟨rfl, rfl⟩ | rfl
      · obtain ⟨meth', c', h1, h2, -, -, -, -, h7, -⟩ := Cond.code_spec B.named h1
        cases B.method.symm.trans h1
        cases X₀.code.symm.trans h2
        have h0 : c.exceptionTable.size = 0 := by simpa [Array.isEmpty] using h7
        have h8 : c.exceptionTable.toList = [] := List.eq_nil_of_length_eq_zero (by simpa using h0)
        rw [h8]
        rfl
      · obtain ⟨m', meth', c', hn', hm, hc, -, -, h7, -⟩ := Cond.codeWith_spec h1
        cases B.named.symm.trans hn'
        cases B.method.symm.trans hm
        cases X₀.code.symm.trans hc
        exact h7
    have hh0 : s₁.heap = s.heap := by rw [B.state]; rfl
    have hW : W p l e rm s m av.toArray below meth c s.heap [] 0 0 (Qe (p, l, e, rm, s, m, av.toArray, below, meth, c) δ A0 P) (entryFrame m av.toArray nL) := by
      rw [lg_entry_eq]
      exact body (p, l, e, rm, s, m, av.toArray, below, meth, c) rfl
        ⟨B.exec, B.bytes, hml, findClass_of_methodNamed B.named, fun w hw => gl_moves hw (State.WarmedH.refl s) (hF.1 w hw), B.notSynchronized, B.returns, rfl, hF.2.1, hF.2.2, hand, htr⟩ hP _ (hlv ▸ lv_entry av hlen)
    obtain ⟨t, a1, o, b1, b2, b3⟩ := hW s₁ hh0 X₀
    exact ⟨t, o, a1, b1, b2, b3⟩
theorem CT.ofN {l : Launch} {y : MethodName} {cw : Cond} {av : List Value} (hcw : (cw = .code y cc nL rt ∧ hh = []) ∨ cw = .codeWith y cc nL rt hh) (hy : plainName y.cls = true) (htr : l.stackTraces = false) (hlv : lv_args 0 av = lv) (hlen : (lg_sl av).length ≤ nL)
    (body : ∀ κ : KX, xl κ = l → XO κ y.cls cc nL rt δ rm A0 hh → G κ nL δ (Kn κ A0) (Qe κ δ A0 P) 0 0 ws lv [] 0) : CT l y cw rm δ A0 ws av P :=
  CT.of hcw hy htr hlv hlen (fun κ h1 X hP ls hl => body κ h1 X _ _ ls hl hP va_S.rf)
theorem CT.ofP {l : Launch} {y : MethodName} {cw : Cond} {av : List Value} (hcw : (cw = .code y cc nL rt ∧ hh = []) ∨ cw = .codeWith y cc nL rt hh) (hy : plainName y.cls = true) (htr : l.stackTraces = false) (hlv : lv_args 0 av = lv) (hlen : (lg_sl av).length ≤ nL)
    (body : ∀ κ : KX, xl κ = l → XO κ y.cls cc nL rt δ rm A0 hh → G κ nL δ (Kp κ) (Qe κ δ A0 P) 0 0 ws lv [] 0) : CT l y cw rm δ A0 ws av P :=
  CT.of hcw hy htr hlv hlen (fun κ h1 X hP ls hl => body κ h1 X _ _ ls hl hP ⟨rfl, rfl⟩)
/-- what the invoking instruction itself does -/
def Inv (κ : KX) (T : State) (locs : List Loc) (cs sl : Nat) (g : JFrame) (rest : List Value) (y : MethodName) (a : Array Value) : Prop :=
  ∃ (vm' : Vm) (mk : MethodId), Stand (xp κ) (xl κ) (xe κ) (xR κ) (xs κ) (xm κ) (xa κ) (xb κ) (xM κ) (xc κ) (T.setVm vm') locs cs sl ∧ (xs κ).methodNamed? y = some mk ∧
    ∀ target, (∀ acts, Steps (xp κ).tables (xe κ) (xb κ) (doInvoke (xe κ) ((T.setVm vm').setTop { g with stack := rest }) acts mk a).1 target) → Steps (xp κ).tables (xe κ) (xb κ) (T.setTop g) target
/-- the callee's start, out of the caller's -/
theorem Fc_of (X : XO κ own cc nL rt δ rm A0 hh) {B0 : Nat → Prop} (hB : ∀ q, B0 q → A0 q) {H : Heap} {locs : List Loc} (hK : Kn κ A0 H locs) {U : State} (hU : U.heap = H) (hW : (xs κ).WarmedH U.vm) : Fc δ B0 U := by
  subst hU
  have k : ∀ a : Nat, a < (xs κ).heap.size → ¬ A0 a → U.heap[a]? = (xs κ).heap[a]? := hK.keep
  exact ⟨fun w hw => gl_moves hw hW (X.wd hw), va_K.moved hW.alike X.kk, ((X.Z.1.kept k).narrow hB).moved hW.alike, ((X.Z.2.kept k).narrow hB).moved hW.alike⟩
theorem w_run (X : XO κ own cc nL rt δ rm A0 hh) {y : MethodName} {cw : Cond} {rm2 : Room} {B0 : Nat → Prop} (hB : ∀ q, B0 q → A0 q) {av : List Value} {cc2 : ByteArray} {nL2 : Nat} {rt2 : Option FieldType} {hh2 : List (Nat × Nat × Nat × Nat)} (hC : CT (xl κ) y cw rm2 δ B0 ws av P)
    (hcw : cw = .code y cc2 nL2 rt2 ∨ cw = .codeWith y cc2 nL2 rt2 hh2) (hw : cw ∈ gl) (hini : Cond.initialized y.cls ∈ gl)
    {T : State} {H : Heap} {locs : List Loc} {ls : Array Slot} {rest stk : List Value} (hI : Inv κ T locs cs sl (F0 (xm κ) pc ls stk) rest y av.toArray) (hT : T.heap = H) (hP : va_P δ.1 vwCl ws H) (hK : Kn κ A0 H locs) (hls : ls.size = nL) {ig : Instr} (hd : decode cc pc = .ok (ig, 3))
    (hfr : rm2.frames + 1 ≤ rm.frames) (hlo : (rest.map fun v => v.category).sum + (nL2 + 11) + rm2.locals ≤ rm.locals) (hcs : cs + rm2.cells ≤ rm.cells) (hsl : sl + rm2.slots ≤ rm.slots) :
    (∃ (v : Option Value) (w : va_W) (L : List Loc) (T' : State), Stand (xp κ) (xl κ) (xe κ) (xR κ) (xs κ) (xm κ) (xa κ) (xb κ) (xM κ) (xc κ) T' (locs ++ L) cs sl ∧ P (.inr v) w ∧ va_P δ.1 vwCl w T'.heap ∧ (∀ q : Nat, q < H.size → ¬ B0 q → T'.heap[q]? = H[q]?) ∧ T'.heap.size = H.size ∧ (∀ q ∈ L, B0 q.base ∨ H.size ≤ q.base) ∧
      ∀ tg, Steps (xp κ).tables (xe κ) (xb κ) (T'.setTop (F0 (xm κ) (pc + 3) ls (v.toList ++ rest))) tg → Steps (xp κ).tables (xe κ) (xb κ) (T.setTop (F0 (xm κ) pc ls stk)) tg) ∨
    (∃ (z x : Nat) (w : va_W) (L : List Loc) (T' : State), Stand (xp κ) (xl κ) (xe κ) (xR κ) (xs κ) (xm κ) (xa κ) (xb κ) (xM κ) (xc κ) T' (locs ++ L) (cs + 1) (sl + 6) ∧ P (.inl z) w ∧ va_P δ.1 vwCl w T'.heap ∧ (∀ q : Nat, q < H.size → ¬ B0 q → T'.heap[q]? = H[q]?) ∧ H.size ≤ T'.heap.size ∧ (∀ q ∈ L, B0 q.base ∨ H.size ≤ q.base) ∧
      (H.size ≤ x ∧ ∃ cell : Cell, T'.heap[x]? = some cell ∧ cell.vm = .none ∧ T'.vm.findClass (xcN z) = some cell.cls) ∧
      ∀ tg, Steps (xp κ).tables (xe κ) (xb κ) ((T'.setTop (F0 (xm κ) pc ls rest)).pushFrame (.throwing x)) tg → Steps (xp κ).tables (xe κ) (xb κ) (T.setTop (F0 (xm κ) pc ls stk)) tg) := by
  obtain ⟨vm', mk, X1, hnm, hst⟩ := hI
  subst hT
  have hn : (T.setVm vm').methodNamed? y = some mk := X1.named hnm
  have hcw1 : cw.before av.toArray (T.setVm vm') = true := gl_moves hw X1.warmed (X.wd hw)
  obtain ⟨mY, cY, hm, hc, hl⟩ : ∃ mY cY, (T.setVm vm').vm.method? mk = some mY ∧ mY.code = some cY ∧ cY.maxLocals = nL2 := by
    rcases hcw with rfl | rfl
    · obtain ⟨mY, cY, h1, h2, -, h4, -⟩ := Cond.code_spec hn hcw1
      exact ⟨mY, cY, h1, h2, h4⟩
    · obtain ⟨m', mY, cY, hn', h1, h2, -, h4, -⟩ := Cond.codeWith_spec hcw1
      cases hn.symm.trans hn'
      exact ⟨mY, cY, h1, h2, h4⟩
  obtain ⟨kY, hkY, -⟩ := className_of_methodNamed hn
  have hinit : kY.init = .initialized := Cond.initialized_spec (findClass_of_methodNamed hn) hkY (gl_moves (a' := #[]) hini X1.warmed (X.wd hini))
  have hgs : (F0 (xm κ) pc ls rest).locals.size = (xc κ).maxLocals := by rw [X.ml]; exact hls
  have hdc : decode (xc κ).code (F0 (xm κ) pc ls rest).pc = .ok (ig, 3) := by rw [X.2.1]; exact hd
  have h : At (T.setVm vm') (F0 (xm κ) pc ls rest).method (xc κ) (xb κ) := X1.here
  have hroom := X.room
  have happ : (headSpec [cw] rm2).appliesLoose y (xe κ).platform ((T.setVm vm').calling (F0 (xm κ) pc ls rest) mk av.toArray) = true :=
    Spec.appliesLoose_calling (g := F0 (xm κ) pc ls rest) h hdc hn hkY hinit
      (X1.room_calling (g := F0 (xm κ) pc ls rest) (R' := rm2) hgs hm hc (by rw [hroom]; exact hfr) (by rw [hl, hroom]; show 2 * 0 + (rest.map fun v => v.category).sum + _ + _ ≤ _; omega) (by rw [hroom]; exact hcs) (by rw [hroom]; exact hsl))
      (atoms_intro (fun c hc' => by rw [List.mem_singleton] at hc'; subst hc'; exact hcw1))
  obtain ⟨mid, hmid⟩ := h.above
  have hfr' : ((T.setVm vm').setTop (F0 (xm κ) pc ls rest)).frames = (.java (F0 (xm κ) pc ls rest) :: mid) ++ xb κ := by rw [State.frames_setTop' _ h.top, hmid]; rfl
  have hFc : Fc δ B0 ((T.setVm vm').calling (F0 (xm κ) pc ls rest) mk av.toArray) := Fc_of X hB (H := T.heap) hK rfl X1.warmed
  obtain ⟨o, t, hsteps, -, hend, hq⟩ := Steps.callFree hC (xp κ) X1.admits X1.cas X1.clock (acts := []) hfr' happ ⟨rfl, hFc, hP⟩ trivial
  rw [State.frames_setTop' _ h.top, X1.tail] at hend
  obtain ⟨r, w, L, k, n, hPr, hPw, hkeep, hW, hsame, hL, hr⟩ := hq
  have hsz : ((T.setVm vm').calling (F0 (xm κ) pc ls rest) mk av.toArray).heap = T.heap := rfl
  have hge := hsame.2.1
  have hle := hsame.2.2.1
  cases r with
  | inr v =>
    obtain ⟨rfl, rfl, rfl⟩ := hr
    obtain ⟨T', X', hW', hB', ht⟩ := X1.outOf (g := F0 (xm κ) pc ls rest) rfl hdc hend hW hsame
    have hth : t.heap = T'.heap := by rw [ht]; rfl
    refine Or.inl ⟨v, w, L, T', X', hPr, by rw [← hth]; exact hPw, fun q h1 h2 => by rw [← hth]; exact hkeep q h1 h2, ?_, hL, fun tg htg => hst tg (fun acts => by rw [doInvoke_state]; exact hsteps.trans (by rw [ht]; exact htg))⟩
    have e1 : T.heap.size ≤ t.heap.size := hge
    have e2 : t.heap.size ≤ T.heap.size + 0 := hle
    rw [← hth]
    omega
  | inl z =>
    obtain ⟨rfl, rfl, x, rfl, hx1, cell, hx2, hx3, hx4⟩ := hr
    obtain ⟨T', X', hW', hB', ht⟩ := X1.outOfThrown (g := F0 (xm κ) pc ls rest) rfl hend hW hsame
    have hth : t.heap = T'.heap := by rw [ht, Stand.throwing_heap]
    have htv : t.vm = T'.vm := by rw [ht, Stand.throwing_vm]
    have e1 : T.heap.size ≤ t.heap.size := hge
    exact Or.inr ⟨z, x, w, L, T', X', hPr, by rw [← hth]; exact hPw, fun q h1 h2 => by rw [← hth]; exact hkeep q h1 h2, by rw [← hth]; exact e1, hL, ⟨hx1, cell, by rw [← hth]; exact hx2, hx3, by rw [← htv]; exact hx4⟩,
      fun tg htg => hst tg (fun acts => by rw [doInvoke_state]; exact hsteps.trans (by rw [ht]; exact htg))⟩
end GC
end
section
section GD
variable {κ : KX} {own : String} {cc : ByteArray} {nL : Nat} {rt : Option FieldType} {δ : EX} {rm : Room} {A0 : Nat → Prop} {hh : List (Nat × Nat × Nat × Nat)} {K : Heap → List Loc → Prop} {Q : State → Prop} {cs sl : Nat} {ws : va_W} {lv : List (Nat × Value)} {st : List Value} {pc : Nat} {P P' : OC → va_W → Prop}
variable {y : MethodName} {cw : Cond} {rm2 : Room} {av : List Value} {cc2 : ByteArray} {nL2 : Nat} {rt2 : Option FieldType} {hh2 : List (Nat × Nat × Nat × Nat)} {rest stk : List Value}
/-- no old cell may be written -/
def NoA : Nat → Prop := fun _ => False
/-- at every point of a walk the instruction at pc invokes y with av -/
def InvAt (κ : KX) (δ : EX) (nL : Nat) (ws : va_W) (pc : Nat) (stk rest : List Value) (y : MethodName) (av : List Value) : Prop :=
  ∀ (T : State) (H : Heap) (locs : List Loc) (ls : Array Slot) (cs sl : Nat), T.heap = H → va_P δ.1 vwCl ws H → Stand (xp κ) (xl κ) (xe κ) (xR κ) (xs κ) (xm κ) (xa κ) (xb κ) (xM κ) (xc κ) T locs cs sl → Inv κ T locs cs sl (F0 (xm κ) pc ls stk) rest y av.toArray
theorem code_got {args : Array Value} {s : State} (hcw : cw = .code y cc2 nL2 rt2 ∨ cw = .codeWith y cc2 nL2 rt2 hh2) (h : cw.before args s = true) : ∃ mk meth, s.methodNamed? y = some mk ∧ s.vm.method? mk = some meth ∧ parseMethodDescriptor y.desc = some meth.sig := by
  rcases hcw with rfl | rfl
  · obtain ⟨mk, hn⟩ := Cond.code_named h
    obtain ⟨meth, c, h1, -, -, -, -, -, -, h2⟩ := Cond.code_spec hn h
    exact ⟨mk, meth, hn, h1, h2⟩
  · obtain ⟨mk, meth, c, hn, h1, -, -, -, -, -, -, h2⟩ := Cond.codeWith_spec h
    exact ⟨mk, meth, hn, h1, h2⟩
theorem inv_S (X : XO κ own cc nL rt δ rm A0 hh) {idx : Nat} (hcw : cw = .code y cc2 nL2 rt2 ∨ cw = .codeWith y cc2 nL2 rt2 hh2) (hw : cw ∈ gl) (hl : Cond.methodLink own idx y ∈ gl) (hs : Cond.static y ∈ gl) (hi : Cond.initialized y.cls ∈ gl)
    (hy : y.cls ≠ "java/lang/invoke/MethodHandle" ∧ y.cls ≠ "java/lang/invoke/VarHandle") (hn : (parseMethodDescriptor y.desc).map (fun d => d.parameters.length) = some av.length) (hd : decode cc pc = .ok (.invokestatic idx, 3)) (hst : stk = av.reverse ++ rest) : InvAt κ δ nL ws pc stk rest y av := by
  intro T H locs ls cs sl hT hP S
  obtain ⟨mk, meth, hnm, hm, hsig⟩ := code_got hcw (X.wd hw)
  obtain ⟨kP, hkP, -⟩ := className_of_methodNamed hnm
  have hlen : av.length = meth.sig.parameters.length := by
    rw [hsig] at hn
    exact (Option.some.inj hn).symm
  obtain ⟨vm₁, X₁, hstep⟩ := S.invokestatic X.1 X.ow (X.wd hl) hnm hm (Cond.static_spec hnm hm (X.wd hs)) hkP (Cond.initialized_spec (findClass_of_methodNamed hnm) hkP (X.wd hi)) hy (g := F0 (xm κ) pc ls stk) rfl (argsL := av) (rest := rest) hlen hst (by rw [X.2.1]; exact hd)
  exact ⟨vm₁, mk, X₁, hnm, hstep⟩
theorem inv_V (X : XO κ own cc nL rt δ rm A0 hh) {idx ci q0 : Nat} {b : Nat} {fs : List Value} {T0 : u_T} {N : Nat} (hcw : cw = .code y cc2 nL2 rt2 ∨ cw = .codeWith y cc2 nL2 rt2 hh2) (hw : cw ∈ gl) (hl : Cond.methodLink own idx y ∈ gl) (hin : Cond.instanceMethod y ∈ gl) (hse : Cond.selects y.cls y y ∈ gl)
    (hy : y.cls ≠ "java/lang/invoke/MethodHandle" ∧ y.cls ≠ "java/lang/invoke/VarHandle") (hn : (parseMethodDescriptor y.desc).map (fun d => d.parameters.length) = some av.length) (hd : decode cc pc = .ok (.invokevirtual idx, 3)) (hst : stk = av.reverse ++ .ref b :: rest)
    (he : ws[q0]? = some (b, .inr (ci, fs))) (hc : vwCl[ci]? = some (y.cls, T0, N)) : InvAt κ δ nL ws pc stk rest y (.ref b :: av) := by
  intro T H locs ls cs sl hT hP S
  obtain ⟨mk, meth, hnm, hm, hsig⟩ := code_got hcw (X.wd hw)
  have hlen : av.length = meth.sig.parameters.length := by
    rw [hsig] at hn
    exact (Option.some.inj hn).symm
  obtain ⟨mk', methM, hnamed, hmethM, hstM, habM⟩ := Cond.instanceMethod_spec (X.wd hin)
  cases hnm.symm.trans hnamed
  cases hm.symm.trans hmethM
  obtain ⟨r, hr, cell, hcell, hcls, hvm, -⟩ := hP q0 _ he
  cases hc.symm.trans hr
  have hK := (X.kk.1 ci _ hc).2.1
  obtain ⟨c2, r2, m2, q1, q2, q3, q4, kP, hkP, hkPi⟩ := Cond.selects_spec (X.wd hse)
  cases hK.symm.trans q1
  cases (State.methodFound?_of_named hnamed hy).symm.trans q2
  cases hnamed.symm.trans q3
  subst hT
  have hselP : selectMethod (xe κ).platform (xs κ).vm cell.cls mk = .method mk := by rw [Launch.admits_selectMethod S.admits, hcls]; exact q4
  obtain ⟨vm₁, X₁, hstep⟩ := S.invokevirtual X.1 X.ow (X.wd hl) hnamed hmethM hstM hkP hkPi hy (a := b) (cell := cell) hcell
    (fun z h => by rw [hvm] at h; cases h) hselP hmethM habM hkP hkPi (g := F0 (xm κ) pc ls stk) rfl (argsL := av) (rest := rest) hlen hst (by rw [X.2.1]; exact hd)
  exact ⟨vm₁, mk, X₁, hnm, hstep⟩
theorem noCovers (X : XO κ own cc nL rt δ rm A0 []) (pc : Nat) : ∀ x ∈ (xc κ).exceptionTable.toList, covers x pc = false := by
  intro x hx
  have h := X.hand
  rw [List.map_eq_nil_iff] at h
  rw [h] at hx
  cases hx
/-- a method without handlers leaves by what its callee threw -/
theorem Qe_thrown (X : XO κ own cc nL rt δ rm A0 []) {T' : State} {H : Heap} {locs L : List Loc} {ls : Array Slot} {z x : Nat} {w : va_W} (hK : Kn κ A0 H locs) (S : Stand (xp κ) (xl κ) (xe κ) (xR κ) (xs κ) (xm κ) (xa κ) (xb κ) (xM κ) (xc κ) T' (locs ++ L) (0 + 1) (0 + 6))
    (hp : P (.inl z) w) (hP : va_P δ.1 vwCl w T'.heap) (hk : ∀ q : Nat, q < H.size → ¬ A0 q → T'.heap[q]? = H[q]?) (hL : ∀ q ∈ L, A0 q.base ∨ H.size ≤ q.base) (hx : H.size ≤ x ∧ ∃ cell : Cell, T'.heap[x]? = some cell ∧ cell.vm = .none ∧ T'.vm.findClass (xcN z) = some cell.cls) :
    ∃ t, Steps (xp κ).tables (xe κ) (xb κ) ((T'.setTop (F0 (xm κ) pc ls rest)).pushFrame (.throwing x)) t ∧ Qe κ δ A0 P t := by
  obtain ⟨h1, h2, h3, h4, h5⟩ := S.leaveThrown x (g := F0 (xm κ) pc ls rest) rfl rfl rfl (noCovers X pc) X.locks
  refine ⟨_, h1, _, h2, h3, .inl z, w, locs ++ L, 1, 6, hp, hP, fun q q1 q2 => ?_, h4, h5, fun q hq => ?_, rfl, rfl, x, rfl, Nat.le_trans hK.1 hx.1, hx.2⟩
  · exact (hk q (Nat.lt_of_lt_of_le q1 hK.1) q2).trans (hK.keep q q1 q2)
  · rcases List.mem_append.mp hq with h | h
    · exact hK.2.2 q h
    · rcases hL q h with h | h
      · exact Or.inl h
      · exact Or.inr (Nat.le_trans hK.1 h)
/-- a call, by its contract: no handlers here -/
theorem g_call (X : XO κ own cc nL rt δ rm A0 []) (hI : InvAt κ δ nL ws pc stk rest y av) (hC : CT (xl κ) y cw rm2 δ A0 ws av P) (hcw : cw = .code y cc2 nL2 rt2 ∨ cw = .codeWith y cc2 nL2 rt2 hh2) (hw : cw ∈ gl) (hini : Cond.initialized y.cls ∈ gl) {ig : Instr} (hd : decode cc pc = .ok (ig, 3))
    (hrm : rm2.frames + 1 ≤ rm.frames ∧ (rest.map fun v => v.category).sum + (nL2 + 11) + rm2.locals ≤ rm.locals ∧ 0 + rm2.cells ≤ rm.cells ∧ 0 + rm2.slots ≤ rm.slots)
    (n : ∀ v w, P (.inr v) w → G κ nL δ (Kn κ A0) (Qe κ δ A0 P') 0 0 w lv (v.toList ++ rest) (pc + 3)) (kt : ∀ z w, P (.inl z) w → P' (.inl z) w) : G κ nL δ (Kn κ A0) (Qe κ δ A0 P') 0 0 ws lv stk pc := by
  intro H locs ls h hP hK T hT S
  rcases w_run X (fun _ q => q) hC hcw hw hini (hI T H locs ls 0 0 hT hP S) hT hP hK h.1 hd hrm.1 hrm.2.1 hrm.2.2.1 hrm.2.2.2 with ⟨v, w, L, T', S', hp, hP', hk, hz, hL, hs⟩ | ⟨z, x, w, L, T', S', hp, hP', hk, hz, hL, hx, hs⟩
  · obtain ⟨t, a1, b1⟩ := n v w hp T'.heap (locs ++ L) ls h hP' ⟨by rw [hz]; exact hK.1, fun q h1 h2 => (hk q (Nat.lt_of_lt_of_le h1 hK.1) (fun z => h2 (Or.inl z))).trans (hK.2.1 q h1 h2), fun q hq => by
      rcases List.mem_append.mp hq with h | h
      · exact hK.2.2 q h
      · rcases hL q h with h | h
        · exact Or.inl h
        · exact Or.inr (Nat.le_trans hK.1 h)⟩ T' rfl S'
    exact ⟨t, hs t a1, b1⟩
  · obtain ⟨t, a1, b1⟩ := Qe_thrown (P := P') (rest := rest) (ls := ls) (pc := pc) X hK S' (kt z w hp) hP' hk hL hx
    exact ⟨t, hs t a1, b1⟩
/-- a contract that changes nothing: one end -/
abbrev CTP (l : Launch) (y : MethodName) (cw : Cond) (rm : Room) (δ : EX) (ws : va_W) (av : List Value) (r : OC) : Prop := CT l y cw rm δ NoA ws av (fun r' w => r' = r ∧ w = ws)
theorem g_callP (X : XO κ own cc nL rt δ rm A0 hh) (hKO : KOk κ A0 K) (hI : InvAt κ δ nL ws pc stk rest y av) {v : Option Value} (hC : CTP (xl κ) y cw rm2 δ ws av (.inr v)) (hcw : cw = .code y cc2 nL2 rt2 ∨ cw = .codeWith y cc2 nL2 rt2 hh2) (hw : cw ∈ gl) (hini : Cond.initialized y.cls ∈ gl) {ig : Instr} (hd : decode cc pc = .ok (ig, 3))
    (hrm : rm2.frames + 1 ≤ rm.frames ∧ (rest.map fun v => v.category).sum + (nL2 + 11) + rm2.locals ≤ rm.locals ∧ cs + rm2.cells ≤ rm.cells ∧ sl + rm2.slots ≤ rm.slots)
    (n : G κ nL δ K Q cs sl ws lv (v.toList ++ rest) (pc + 3)) : G κ nL δ K Q cs sl ws lv stk pc := by
  intro H locs ls h hP hk0 T hT S
  have hK := hKO H locs hk0
  rcases w_run X (fun _ q => q.elim) hC hcw hw hini (hI T H locs ls cs sl hT hP S) hT hP hK h.1 hd hrm.1 hrm.2.1 hrm.2.2.1 hrm.2.2.2 with ⟨v', w, L, T', S', ⟨hp, -⟩, hP', hk, hz, hL, hs⟩ | ⟨z, x, w, L, T', S', ⟨hp, -⟩, -⟩
  · cases hp
    have hH : T'.heap = H := by
      apply Array.ext
      · exact hz
      · intro i h1 h2
        have := hk i h2 (fun q => q)
        rw [Array.getElem?_eq_getElem h1, Array.getElem?_eq_getElem h2] at this
        exact Option.some.inj this
    have S2 := Stand.forget (extra := L) S' (fun q hq => by
      rcases hL q hq with h | h
      · exact h.elim
      · exact Nat.le_trans hK.1 h)
    obtain ⟨t, a1, b1⟩ := n H locs ls h hP hk0 T' hH S2
    exact ⟨t, hs t a1, b1⟩
  · cases hp
theorem g_callPT (X : XO κ own cc nL rt δ rm A0 []) (hKO : KOk κ A0 K) (hI : InvAt κ δ nL ws pc stk rest y av) {z : Nat} (hC : CTP (xl κ) y cw rm2 δ ws av (.inl z)) (hcw : cw = .code y cc2 nL2 rt2 ∨ cw = .codeWith y cc2 nL2 rt2 hh2) (hw : cw ∈ gl) (hini : Cond.initialized y.cls ∈ gl) {ig : Instr} (hd : decode cc pc = .ok (ig, 3))
    (hrm : rm2.frames + 1 ≤ rm.frames ∧ (rest.map fun v => v.category).sum + (nL2 + 11) + rm2.locals ≤ rm.locals ∧ 0 + rm2.cells ≤ rm.cells ∧ 0 + rm2.slots ≤ rm.slots)
    (hp : P' (.inl z) ws) : G κ nL δ K (Qe κ δ A0 P') 0 0 ws lv stk pc := by
  intro H locs ls h hP hk0 T hT S
  have hK := hKO H locs hk0
  rcases w_run X (fun _ q => q.elim) hC hcw hw hini (hI T H locs ls 0 0 hT hP S) hT hP hK h.1 hd hrm.1 hrm.2.1 hrm.2.2.1 hrm.2.2.2 with ⟨v', w, L, T', S', ⟨hp', -⟩, -⟩ | ⟨z', x, w, L, T', S', ⟨hp', hw'⟩, hP', hk, hz, hL, hx, hs⟩
  · cases hp'
  · cases hp'
    subst hw'
    obtain ⟨t, a1, b1⟩ := Qe_thrown (P := P') (rest := rest) (ls := ls) (pc := pc) X hK S' hp hP' (fun q h1 _ => hk q h1 (fun z => z)) (fun q hq => Or.inr ((hL q hq).elim (fun z => z.elim) (fun z => z))) hx
    exact ⟨t, hs t a1, b1⟩
end GD
end
section
section GT
variable {κ : KX} {own : String} {cc : ByteArray} {nL : Nat} {rt : Option FieldType} {δ : EX} {rm : Room} {A0 : Nat → Prop} {ws : va_W} {lv : List (Nat × Value)} {pc : Nat} {P : OC → va_W → Prop}
theorem old_same {s t : State} {k n : Nat} (h : s.sameButNew ({ t with vm := s.vm } : State) [] k n) (q : Nat) (hq : q < s.heap.size) : t.heap[q]? = s.heap[q]? := by
  obtain ⟨c', h1, h2, h3, h4⟩ := h.2.2.2.2.2 q s.heap[q] (Array.getElem?_eq_getElem hq)
  have h1' : t.heap[q]? = some c' := h1
  rw [h1', Array.getElem?_eq_getElem hq, h2]
  congr 1
  have hs : c'.slots = (s.heap[q]).slots := by
    apply Array.ext
    · exact h3
    · intro i a1 a2
      have := h4 i (by simp)
      rw [Array.getElem?_eq_getElem a1, Array.getElem?_eq_getElem a2] at this
      exact Option.some.inj this
  rw [hs]
/-- the words of a throw that speak of the heap -/
def hw4 : List Cond := [.isRef (.static "java/lang/Throwable" "UNASSIGNED_STACK" "[Ljava/lang/StackTraceElement;"), .isRef (.static "java/lang/Throwable" "SUPPRESSED_SENTINEL" "Ljava/util/List;"), .laysStatic "java/lang/Throwable" "UNASSIGNED_STACK" "[Ljava/lang/StackTraceElement;", .laysStatic "java/lang/Throwable" "SUPPRESSED_SENTINEL" "Ljava/util/List;"]
theorem hw4_of (X : XO κ own cc nL rt δ rm A0 []) : ∀ w ∈ hw4, w.before (xa κ) (xs κ) = true := by
  intro w hw
  simp only [hw4, List.mem_cons, List.not_mem_nil, or_false] at hw
  rcases hw with rfl | rfl | rfl | rfl
  · exact vx_isRefq X.Z.1.1
  · exact vx_isRefq X.Z.2.1
  · exact X.Z.1.2.word
  · exact X.Z.2.2.word
/-- what a throw of cls by its text leans on: its own constructor (in which 'super(text)' is the entry i), the constructors above it, Throwable -/
def xAt (own : String) (ic : Nat) (cls Y : String) (i : Nat) (bytes : ByteArray) (names : List String) : List Cond :=
  Bundle.throwableAtoms ++ Bundle.throwableSAtoms ++ Bundle.passSAtoms cls Y i bytes ++ Bundle.chainSAtoms Y names ++
  [.methodLink own ic (Bundle.initS cls), .instantiable cls 6, .selects cls Bundle.tFill0 Bundle.tFill0, .selects cls Bundle.tFill Bundle.tFill,
   .lays cls Bundle.tN "cause" "Ljava/lang/Throwable;", .lays cls Bundle.tN "stackTrace" Bundle.steD, .lays cls Bundle.tN "suppressedExceptions" Bundle.listD, .lays cls Bundle.tN "detailMessage" "Ljava/lang/String;",
   .isRef (.static Bundle.tN "UNASSIGNED_STACK" Bundle.steD), .isRef (.static Bundle.tN "SUPPRESSED_SENTINEL" Bundle.listD),
   .fieldLink Bundle.tN 198 Bundle.tN "backtrace" "Ljava/lang/Object;", .lays Bundle.tN Bundle.tN "backtrace" "Ljava/lang/Object;", .lays cls Bundle.tN "backtrace" "Ljava/lang/Object;"]
set_option maxHeartbeats 4000000 in
theorem ctorT {p : Program} {l : Launch} {e : Env} {R : Room} {s : State} {m₀ : MethodId} {args : Array Value} {below : List Frame} {meth : Method} {c : Code} {T0 : State} {locs : List Loc} {cells slots : Nat}
    (X : Stand p l e R s m₀ args below meth c T0 locs cells slots) (hexec : p.tables.exec = Jvm.exec) (htr : e.platform.stackTraces = false) {own cls Y : String} {names : List String} {ic i : Nat} {bytes : ByteArray}
    (hown : s.vm.findClass own = some m₀.cls) (hcls : Bundle.fit cls = true) (hY : Bundle.fit Y = true) (hnames : ∀ n ∈ names, Bundle.fit n = true)
    (b0 : decode bytes 0 = .ok (.aload_n 0, 1)) (b1 : decode bytes 1 = .ok (.aload_n 1, 1)) (b2 : decode bytes 2 = .ok (.invokespecial i, 3)) (b5 : decode bytes 5 = .ok (.return_, 1))
    (h : ∀ a ∈ xAt own ic cls Y i bytes names, a.before args s = true)
    (hlocs : ∀ x ∈ locs, ∀ cell, s.heap[x.base]? = some cell → cell.vm.isStatics = false)
    {a : Addr} {cX : ClassId} {kX : Class} (hfoundX : s.vm.findClass cls = some cX) (hkX : s.vm.classes[cX]? = some kX) (hcell : T0.heap[a]? = some (freshCell cX kX)) (hnew : s.heap.size ≤ a)
    {msg : Value} (hmsg : msg.isRef = true)
    {g : JFrame} (hg : g.method = m₀) (hsize : g.locals.size = c.maxLocals) (hlocked : g.locked = none) (hentered : g.entered = []) {rest : List Value} (hstack : g.stack = msg :: .ref a :: .ref a :: rest)
    (hd6 : decode c.code g.pc = .ok (.invokespecial ic, 3)) (hd9 : decode c.code (g.pc + 3) = .ok (.athrow, 1)) (hout : ∀ x ∈ c.exceptionTable.toList, covers x (g.pc + 3) = false)
    (hRframes : names.length + 4 < R.frames) (hRlocals : 2 * g.monitorRoom + ((Value.ref a :: rest).map fun v => v.category).sum + (13 * (names.length + 2) + 42) ≤ R.locals) (hlocks : meth.locks = false) :
    ∃ U : State, Steps p.tables e below (T0.setTop g) U ∧ U.status = .running ∧ Ended U below (.threw a) ∧ s.WarmedH U.vm ∧ s.sameButNew ({ U with vm := s.vm } : State) locs cells slots ∧
      ∃ ce, U.heap[a]? = some ce ∧ ce.vm = .none ∧ s.vm.findClass cls = some ce.cls := by
  have howns : e.platform.frameOwnsMonitors = true := by rw [X.admits.platform]
  have hfin : e.platform.finalization = false := by rw [X.admits.platform]
  have hpl : e.platform.magicAccessors = ({} : Platform).magicAccessors := by rw [X.admits.platform]
  have a' : ∀ x, x ∈ xAt own ic cls Y i bytes names → x.holds args s none s [] = true := fun x hx => h x hx
  obtain ⟨T, Z0, L, -, Ti⟩ := ThrowableC.of_atoms (args := args) howns hfin hpl (fun x hx => h x (by simp [xAt, hx]))
  obtain ⟨Z, M, LZ, LM, hnZ⟩ := Init0T.ofS_atoms (args := args) hpl L Ti (fun x hx => h x (by simp [xAt, hx]))
  obtain ⟨P1, L1, hP1m, hP1s⟩ := PassC.ofS_atoms (args := args) (s := s) hpl (X := cls) (Y := Y) (Bundle.fit_spec hcls).1 (Bundle.fit_spec hY).2 b0 b1 b2 b5 (fun x hx => h x (by simp only [xAt, List.mem_append]; simp [hx]))
  obtain ⟨P2, Ps, hlen, L2, hL, hP2m, hlink2, hlink⟩ := Bundle.chainS (args := args) hpl hnZ names Y hY hnames (fun x hx => h x (by simp only [xAt, List.mem_append]; simp [hx]))
  have hlink1 : P1.sup = P2.m := Option.some.inj (hP1s.symm.trans hP2m)
  have hfound : s.vm.findClass cls = some P1.m.cls := findClass_of_methodNamed hP1m
  cases Option.some.inj (hfoundX.symm.trans hfound)
  obtain ⟨c1, kX', hc1, hk, hord, -, -, hn6⟩ := Cond.instantiable_spec (a' (.instantiable cls 6) (by simp [xAt]))
  cases Option.some.inj (hc1.symm.trans hfound)
  cases Option.some.inj (hkX.symm.trans hk)
  have hsel0 : selectMethod e.platform s.vm P1.m.cls T.fill0 = .method T.fill0 := by
    obtain ⟨c2, r2, m2, q1, q2, q3, q4, -⟩ := Cond.selects_spec (a' (.selects cls Bundle.tFill0 Bundle.tFill0) (by simp [xAt]))
    cases Option.some.inj (q1.symm.trans hfound)
    cases Option.some.inj (q2.symm.trans (State.methodFound?_of_named Ti.fill0 (by decide)))
    cases Option.some.inj (q3.symm.trans Ti.fill0)
    rw [Launch.admits_selectMethod X.admits]; exact q4
  have hselF : selectMethod e.platform s.vm P1.m.cls T.fill = .method T.fill := by
    obtain ⟨c2, r2, m2, q1, q2, q3, q4, -⟩ := Cond.selects_spec (a' (.selects cls Bundle.tFill Bundle.tFill) (by simp [xAt]))
    cases Option.some.inj (q1.symm.trans hfound)
    cases Option.some.inj (q2.symm.trans (State.methodFound?_of_named Ti.fill (by decide)))
    cases Option.some.inj (q3.symm.trans Ti.fill)
    rw [Launch.admits_selectMethod X.admits]; exact q4
  obtain ⟨cellS0, hcS0, hiss⟩ := Ti.statics
  obtain ⟨u0, hu0⟩ := Cond.staticRefV Ti.unassigned L.unassignedStatic L.statics hcS0 hiss (a' (.isRef (.static Bundle.tN "UNASSIGNED_STACK" Bundle.steD)) (by simp [xAt]))
  obtain ⟨sen, hsen⟩ := Cond.staticRefV Ti.sentinel L.sentinelStatic L.statics hcS0 hiss (a' (.isRef (.static Bundle.tN "SUPPRESSED_SENTINEL" Bundle.listD)) (by simp [xAt]))
  obtain ⟨ci198, i198, fB, hk198, hg198, ha198, hsB, -, hnB, htB, hffB⟩ := Cond.ownField (t := .object "java/lang/Object") Ti.found L.cls (by decide +kernel) (a' (.fieldLink Bundle.tN 198 Bundle.tN "backtrace" "Ljava/lang/Object;") (by simp [xAt])) (a' (.lays Bundle.tN Bundle.tN "backtrace" "Ljava/lang/Object;") (by simp [xAt])) e.platform hpl
  obtain ⟨cellS, hcS', heS, -, hkeep⟩ := X.same.2.2.2.2.2 T.aS cellS0 hcS0
  have hcellS : T0.heap[T.aS]? = some cellS := hcS'
  have hout' : ∀ i, (⟨T.aS, i⟩ : Loc) ∉ locs := fun i hmem => by
    have := hlocs _ hmem cellS0 hcS0
    rw [hiss] at this; cases this
  have hknownS : cellS.vm ≠ .unknown := by
    rw [heS]; intro hu
    rw [show cellS0.vm = .unknown from hu] at hiss
    cases hiss
  have hneS : T.aS ≠ a := Nat.ne_of_lt (Nat.lt_of_lt_of_le (Array.getElem?_eq_some_iff.mp hcS0).1 hnew)
  obtain ⟨iM, hffM⟩ := Ti.msg
  obtain ⟨tyC, dC, hdC, hdnC⟩ := Cond.laysAt hfound hk Ti.cause (a' (.lays cls Bundle.tN "cause" "Ljava/lang/Throwable;") (by simp [xAt]))
  obtain ⟨tyS, dS, hdS, hdnS⟩ := Cond.laysAt hfound hk Ti.stack (a' (.lays cls Bundle.tN "stackTrace" Bundle.steD) (by simp [xAt]))
  obtain ⟨tyP, dP, hdP, hdnP⟩ := Cond.laysAt hfound hk Ti.supp (a' (.lays cls Bundle.tN "suppressedExceptions" Bundle.listD) (by simp [xAt]))
  obtain ⟨tyM, dM, hdM, hdnM⟩ := Cond.laysAt hfound hk hffM (a' (.lays cls Bundle.tN "detailMessage" "Ljava/lang/String;") (by simp [xAt]))
  obtain ⟨tyB, dB, hdB, hdnB⟩ := Cond.laysAt hfound hk hffB (a' (.lays cls Bundle.tN "backtrace" "Ljava/lang/Object;") (by simp [xAt]))
  have bC := Cond.laysApart hdB hdC hdnB hdnC (by rw [hnB, Ti.causeName]; decide)
  have bS := Cond.laysApart hdB hdS hdnB hdnS (by rw [hnB, Ti.stackName]; decide)
  have bP := Cond.laysApart hdB hdP hdnB hdnP (by rw [hnB, Ti.suppName]; decide)
  have hskip : SkipFacts T e.platform s (fun u => u) u0 ((preparedCellV T.toThrowableT (freshCell P1.m.cls kX) a u0 sen).withEntry T0.cur) :=
    ⟨{ ci198 := ci198, i198 := i198, fBack := fB }, ⟨hk198, hg198, ha198, hsB⟩, by
      have := fresh_default (c := P1.m.cls) tyB
      rw [htB] at this
      simpa [preparedCellV, Cell.setSlot, Cell.withEntry, Array.getElem?_setIfInBounds, bC, bS, bP, bC.symm, bS.symm, bP.symm, defaultValue] using this, fun _ _ => rfl⟩
  obtain ⟨tm, methC, cdC, kC, vm₁, hnC, -, -, -, -, -, -, -, hW₁, st1⟩ := Steps.initColdS (tb := p.tables) (e := e) (below := below) (s := s) (U := T0) X.here hexec X.warmed hpl hown (t := Bundle.initS cls) rfl rfl (Bundle.fit_spec hcls).2
    (a' (.methodLink own ic (Bundle.initS cls)) (by simp [xAt])) (h (.instanceMethod (Bundle.initS cls)) (by simp [xAt, Bundle.passSAtoms])) (bytes := bytes) (maxL := 2) (h (.code (Bundle.initS cls) bytes 2 none) (by simp [xAt, Bundle.passSAtoms]))
    (f := g) hg (a := a) (msg := msg) (rest := .ref a :: rest) hstack hd6
  cases Option.some.inj (hnC.symm.trans hP1m)
  have X₁ := X.noted hW₁
  obtain ⟨vm₂, X₂, st2⟩ := X₁.ctorMessageOffV hexec (g := { g with stack := .ref a :: rest }) hg hsize T L Z LZ M LM (P1 :: P2 :: Ps)
    (fun P hP => by
      rcases List.mem_cons.mp hP with rfl | hP
      · exact L1
      · rcases List.mem_cons.mp hP with rfl | hP
        · exact L2
        · exact hL P hP) ⟨hlink1, hlink2, hlink⟩ (u0 := u0) (sen := sen) (self := a) hmsg (cell := freshCell P1.m.cls kX) (cellS := cellS)
    hcell (fun _ => by simp) (by simp) rfl rfl hsel0 hselF hcellS hneS hknownS (by rw [hkeep _ (hout' _)]; exact hu0) (by rw [hkeep _ (hout' _)]; exact hsen)
    (Takes.of_laid hk hord tyC (by rw [Ti.causeType]; rfl)) (Takes.of_laid hk hord tyS (by rw [Ti.stackType]; exact fits_refV_array _ u0)) (Takes.of_laid hk hord tyP (by rw [Ti.suppType]; exact fits_refV_object _ sen))
    (Takes.of_laid hk hord tyM (by rw [Ti.msgType]; exact fits_refV_object _ ⟨msg, hmsg⟩)) Ti.objLocals hskip htr [] hd6
    (by simp only [List.length_cons, hlen]; omega) (by simp only [List.length_cons, hlen]; exact hRlocals)
  obtain ⟨hwalk, hrun, hended, hWU, hsame⟩ := X₂.athrowLeaves hexec (g := { g with stack := .ref a :: rest, pc := g.pc + 3 }) hg hlocked hentered hout (a := a) (rest := rest) rfl hd9
  have hlt : a < ((T0.setVm vm₁).setVm vm₂).heap.size := (Array.getElem?_eq_some_iff.mp hcell).1
  have hU := heapAt_setCell_self (s := (T0.setVm vm₁).setVm vm₂) (plainBareV T.toThrowableT (freshCell P1.m.cls kX) a u0 sen msg) hlt
  refine ⟨_, st1 _ (fun acts => ?_), hrun, hended, hWU, hsame.weaken (fun y hy hlt' => ?_) (Nat.le_refl _) (Nat.le_refl _), _, hU, rfl, hfound⟩
  · rw [doInvoke_state]
    exact st2 _ hwalk
  · rcases List.mem_append.mp hy with h1 | h1
    · exact h1
    · exfalso
      have hb : y.base = a := by
        simp only [List.mem_cons, List.not_mem_nil, or_false] at h1
        rcases h1 with rfl | rfl | rfl | rfl | rfl <;> rfl
      rw [hb] at hlt'
      exact Nat.not_lt.mpr hnew hlt'
theorem g_throw (X : XO κ own cc nL rt δ rm A0 []) (z : Nat) {ic i inew is : Nat} {bytes : ByteArray} {tx : String}
    (b0 : decode bytes 0 = .ok (.aload_n 0, 1)) (b1 : decode bytes 1 = .ok (.aload_n 1, 1)) (b2 : decode bytes 2 = .ok (.invokespecial i, 3)) (b5 : decode bytes 5 = .ok (.return_, 1))
    (hat : ∀ a ∈ xAt own ic (xcN z) "java/lang/RuntimeException" i bytes ["java/lang/Exception"], a ∈ gl ∨ a ∈ hw4)
    (hfit : Bundle.fit (xcN z) = true) (hcl : Cond.classLink own inew (xcN z) ∈ gl) (hinst : Cond.instantiable (xcN z) 6 ∈ gl) (hini : Cond.initialized (xcN z) ∈ gl) (hs : Cond.stringRef own is tx ∈ gl)
    (hd0 : decode cc pc = .ok (.new inew, 3)) (hd1 : decode cc (pc + 3) = .ok (.dup, 1)) (hd2 : decode cc (pc + 3 + 1) = .ok (.ldc is, 2)) (hd3 : decode cc (pc + 3 + 1 + 2) = .ok (.invokespecial ic, 3)) (hd4 : decode cc (pc + 3 + 1 + 2 + 3) = .ok (.athrow, 1))
    (hrm : 5 < rm.frames ∧ 82 ≤ rm.locals ∧ 1 ≤ rm.cells ∧ 6 ≤ rm.slots) (hp : P (.inl z) ws) : G κ nL δ (Kp κ) (Qe κ δ A0 P) 0 0 ws lv [] pc := by
  intro H locs ls h hP hK
  obtain ⟨rfl, rfl⟩ := hK
  have hroom := X.room
  refine W.newc X.1 X.2.1 X.ow (X.wd hcl) (X.wd hinst) (X.wd hini) rfl hd0 (by rw [hroom]; have := hrm.2.2.1; omega) (by rw [hroom]; have := hrm.2.2.2; omega) (fun cC kC h1 h2 h3 h4 => ?_)
  refine W.eq (g2 := F0 (xm κ) (pc + 3) ls [.ref (xs κ).heap.size]) rfl ?_
  refine lv_dup X.1 X.2.1 hd1 rfl ?_
  obtain ⟨-, -, -, sa, -, -, -, -, -, hev⟩ := Cond.stringRef_spec X.ow (X.wd hs)
  intro T hT S
  refine (fun q => ?_ : (∃ t, Steps (xp κ).tables (xe κ) (xb κ) (T.setTop (F0 (xm κ) (pc + 3 + 1 + 2) ls [.ref sa, .ref (xs κ).heap.size, .ref (xs κ).heap.size])) t ∧ Qe κ δ A0 P t) → _) ?_
  · obtain ⟨t, a1, b1⟩ := q
    exact ⟨t, S.ldcString X.1 X.ow (X.wd hs) hev (g := F0 (xm κ) (pc + 3 + 1) ls [.ref (xs κ).heap.size, .ref (xs κ).heap.size]) rfl (by rw [X.2.1]; exact hd2) t a1, b1⟩
  · have htr : (xe κ).platform.stackTraces = false := by rw [S.admits.platform]; exact X.tr
    have hatoms : ∀ a ∈ xAt own ic (xcN z) "java/lang/RuntimeException" i bytes ["java/lang/Exception"], a.before (xa κ) (xs κ) = true := fun a ha => by
      rcases hat a ha with h | h
      · exact X.wd h
      · exact hw4_of X a h
    obtain ⟨U, s1, s2, s3, s4, s5, ce, s6, s7, s8⟩ := ctorT S X.1 htr X.ow hfit (by decide) (by decide) b0 b1 b2 b5 hatoms (fun x hx => by cases hx) (a := (xs κ).heap.size) h1 h2 (by rw [hT]; simp) (Nat.le_refl _) (msg := .ref sa) rfl
      (g := F0 (xm κ) (pc + 3 + 1 + 2) ls [.ref sa, .ref (xs κ).heap.size, .ref (xs κ).heap.size]) rfl (by rw [X.ml]; exact h.1) rfl rfl (rest := []) rfl (by rw [X.2.1]; exact hd3) (by rw [X.2.1]; exact hd4) (noCovers X _) (by rw [hroom]; exact hrm.1) (by rw [hroom]; exact hrm.2.1) X.locks
    have key := old_same s5
    refine ⟨U, s1, _, s2, s3, .inl z, ws, [], 1, 6, hp, va_P.kept hP (fun k q hk => key q.1 (hP k q hk).lt), fun q q1 _ => key q q1, s4, s5, (fun q hq => by cases hq), rfl, rfl, _, rfl, Nat.le_refl _, ce, s6, s7, ?_⟩
    rw [s4.alike.findClass]
    exact s8
end GT

theorem at_1 : ∀ a ∈ xAt R_D 193 (xcN 1) "java/lang/RuntimeException" 7 prog_6_method_2_code ["java/lang/Exception"], a ∈ gl ∨ a ∈ hw4 := by decide +kernel
theorem at_2 : ∀ a ∈ xAt R_D 213 (xcN 2) "java/lang/RuntimeException" 7 prog_7_method_2_code ["java/lang/Exception"], a ∈ gl ∨ a ∈ hw4 := by decide +kernel
theorem at_3 : ∀ a ∈ xAt R_D 208 (xcN 3) "java/lang/RuntimeException" 13 prog_13_method_4_code ["java/lang/Exception"], a ∈ gl ∨ a ∈ hw4 := by decide +kernel
theorem at_4 : ∀ a ∈ xAt R_D 172 (xcN 4) "java/lang/RuntimeException" 7 prog_12_method_2_code ["java/lang/Exception"], a ∈ gl ∨ a ∈ hw4 := by decide +kernel
end
section
/-! The desk's world: seven matrices by their place (0 .. 5 the registers, 6 the spare one), at addresses ad. -/
section DW
abbrev Mx : Type := Nat × Nat × (Nat → Int64) × (Nat → Bool)
abbrev DS : Type := Nat → Mx
def b2 (b : Bool) : Int32 := if b then 1 else 0
def wl (ad : Nat → Nat) (n : Nat) (f : Nat → va_E) : va_W := (List.range n).map (fun i => (ad i, f i))
theorem wl_get {ad : Nat → Nat} {n : Nat} {f : Nat → va_E} {i : Nat} (h : i < n) : (wl ad n f)[i]? = some (ad i, f i) := by
  unfold wl
  rw [List.getElem?_map, List.getElem?_range h]
  rfl
theorem wl_set {ad : Nat → Nat} {n : Nat} {f : Nat → va_E} {i : Nat} (e : va_E) : (wl ad n f).set i (ad i, e) = wl ad n (va_up f i e) := by
  apply List.ext_getElem?
  intro k
  unfold wl
  rw [List.getElem?_set, List.getElem?_map, List.getElem?_map]
  by_cases hk : i = k
  · subst hk
    by_cases hn : i < n
    · simp [hn, va_up]
    · simp [hn, List.getElem?_eq_none]
  · rw [if_neg hk]
    by_cases hn : k < n
    · rw [List.getElem?_range hn]
      have : ¬ k = i := fun q => hk q.symm
      simp [va_up, this]
    · rw [List.getElem?_eq_none (by simp; omega)]
      rfl
theorem wl_D {ad : Nat → Nat} {n : Nat} {f : Nat → va_E} {A : Nat → Prop} (hi : ∀ i j, i < n → j < n → ad i = ad j → i = j) (hA : ∀ i, i < n → A (ad i)) : va_D A (wl ad n f) := by
  have key : ∀ (k : Nat) (q : Nat × va_E), (wl ad n f)[k]? = some q → k < n ∧ q = (ad k, f k) := by
    intro k q hk
    by_cases hn : k < n
    · rw [wl_get hn] at hk
      exact ⟨hn, (Option.some.inj hk).symm⟩
    · unfold wl at hk
      rw [List.getElem?_eq_none (by simp; omega)] at hk
      cases hk
  refine ⟨fun i j p q h1 h2 h3 => ?_, fun k q h1 => ?_⟩
  · obtain ⟨a1, rfl⟩ := key i p h1
    obtain ⟨a2, rfl⟩ := key j q h2
    exact hi i j a1 a2 h3
  · obtain ⟨a1, rfl⟩ := key k q h1
    exact hA k a1
/-- the address of a matrix, of its values, of its marks -/
def mq (ad : Nat → Nat) (r : Nat) : Nat := ad (3 * r + 2)
def vq (ad : Nat → Nat) (r : Nat) : Nat := ad (3 * r + 3)
def fq (ad : Nat → Nat) (r : Nat) : Nat := ad (3 * r + 4)
def df (δ : EX) (ad : Nat → Nat) (M : DS) (i : Nat) : va_E :=
  if i = 0 then .inr (0, [.ref (ad 1), .ref (mq ad 6)])
  else if i = 1 then .inl (δ.2 3, 6, .inr (.inr (.inr (.inr (fun r => if r < 6 then some (mq ad r) else none)))))
  else if i % 3 = 2 then .inr (1, [.int (nI (M (i / 3)).1), .int (nI (M (i / 3)).2.1), .ref (vq ad (i / 3)), .ref (fq ad (i / 3))])
  else if i % 3 = 0 then .inl (δ.2 1, 64, .inr (.inl (M (i / 3 - 1)).2.2.1))
  else .inl (δ.2 2, 64, .inl (fun p => b2 ((M (i / 3 - 1)).2.2.2 p)))
def dl (δ : EX) (ad : Nat → Nat) (M : DS) : va_W := wl ad 23 (df δ ad M)
/-- the desk's own cells -/
def Ar (ad : Nat → Nat) : Nat → Prop := fun q => ∃ i, i < 23 ∧ q = ad i
def Inj (ad : Nat → Nat) : Prop := ∀ i j, i < 23 → j < 23 → ad i = ad j → i = j
variable {δ : EX} {ad : Nat → Nat} {M : DS} {r : Nat}
theorem df_m : df δ ad M (3 * r + 2) = .inr (1, [.int (nI (M r).1), .int (nI (M r).2.1), .ref (vq ad r), .ref (fq ad r)]) := by
  have h1 : (3 * r + 2) % 3 = 2 := by omega
  have h2 : (3 * r + 2) / 3 = r := by omega
  have h3 : ¬ 3 * r + 2 = 0 := by omega
  have h4 : ¬ 3 * r + 2 = 1 := by omega
  simp only [df, h1, h2, h3, h4, if_true, if_false]
theorem df_v : df δ ad M (3 * r + 3) = .inl (δ.2 1, 64, .inr (.inl (M r).2.2.1)) := by
  have h1 : (3 * r + 3) % 3 = 0 := by omega
  have h2 : (3 * r + 3) / 3 - 1 = r := by omega
  have h3 : ¬ 3 * r + 3 = 0 := by omega
  have h4 : ¬ 3 * r + 3 = 1 := by omega
  have h5 : ¬ (0 : Nat) = 2 := by omega
  simp only [df, h1, h2, h3, h4, h5, if_true, if_false]
theorem df_f : df δ ad M (3 * r + 4) = .inl (δ.2 2, 64, .inl (fun p => b2 ((M r).2.2.2 p))) := by
  have h1 : (3 * r + 4) % 3 = 1 := by omega
  have h2 : (3 * r + 4) / 3 - 1 = r := by omega
  have h3 : ¬ 3 * r + 4 = 0 := by omega
  have h4 : ¬ 3 * r + 4 = 1 := by omega
  have h5 : ¬ (1 : Nat) = 2 := by omega
  have h6 : ¬ (1 : Nat) = 0 := by omega
  simp only [df, h1, h2, h3, h4, h5, h6, if_true, if_false]
theorem dl_0 : (dl δ ad M)[0]? = some (ad 0, .inr (0, [.ref (ad 1), .ref (mq ad 6)])) := wl_get (by omega)
theorem dl_1 : (dl δ ad M)[1]? = some (ad 1, .inl (δ.2 3, 6, .inr (.inr (.inr (.inr (fun r => if r < 6 then some (mq ad r) else none)))))) := wl_get (by omega)
theorem dl_m (h : r < 7) : (dl δ ad M)[3 * r + 2]? = some (mq ad r, .inr (1, [.int (nI (M r).1), .int (nI (M r).2.1), .ref (vq ad r), .ref (fq ad r)])) := by
  have := wl_get (ad := ad) (f := df δ ad M) (show 3 * r + 2 < 23 by omega)
  rw [df_m] at this
  exact this
theorem dl_v (h : r < 7) : (dl δ ad M)[3 * r + 3]? = some (vq ad r, .inl (δ.2 1, 64, .inr (.inl (M r).2.2.1))) := by
  have := wl_get (ad := ad) (f := df δ ad M) (show 3 * r + 3 < 23 by omega)
  rw [df_v] at this
  exact this
theorem dl_f (h : r < 7) : (dl δ ad M)[3 * r + 4]? = some (fq ad r, .inl (δ.2 2, 64, .inl (fun p => b2 ((M r).2.2.2 p)))) := by
  have := wl_get (ad := ad) (f := df δ ad M) (show 3 * r + 4 < 23 by omega)
  rw [df_f] at this
  exact this
theorem df_um (x y : Nat) : va_up (df δ ad M) (3 * r + 2) (.inr (1, [.int (nI x), .int (nI y), .ref (vq ad r), .ref (fq ad r)])) = df δ ad (va_up M r (x, y, (M r).2.2)) := by
  funext i
  by_cases h : i = 3 * r + 2
  · subst h
    rw [df_m]
    simp [va_up]
  · by_cases a0 : i = 0
    · subst a0; simp [va_up, df]
    by_cases a1 : i = 1
    · subst a1
      have : ¬ 1 = 3 * r + 2 := h
      simp [va_up, df, this]
    have e : va_up (df δ ad M) (3 * r + 2) (.inr (1, [.int (nI x), .int (nI y), .ref (vq ad r), .ref (fq ad r)])) i = df δ ad M i := by simp [va_up, h]
    rw [e]
    unfold df
    rw [if_neg a0, if_neg a0, if_neg a1, if_neg a1]
    by_cases b2' : i % 3 = 2
    · rw [if_pos b2', if_pos b2']
      have : ¬ i / 3 = r := by omega
      simp [va_up, this]
    · rw [if_neg b2', if_neg b2']
      by_cases c : i / 3 - 1 = r
      · simp [va_up, c]
      · simp [va_up, c]
theorem df_uv (g : Nat → Int64) : va_up (df δ ad M) (3 * r + 3) (.inl (δ.2 1, 64, .inr (.inl g))) = df δ ad (va_up M r ((M r).1, (M r).2.1, g, (M r).2.2.2)) := by
  funext i
  by_cases h : i = 3 * r + 3
  · subst h
    rw [df_v]
    simp [va_up]
  · by_cases a0 : i = 0
    · subst a0; simp [va_up, df]
    by_cases a1 : i = 1
    · subst a1
      have : ¬ 1 = 3 * r + 3 := h
      simp [va_up, df, this]
    have e : va_up (df δ ad M) (3 * r + 3) (.inl (δ.2 1, 64, .inr (.inl g))) i = df δ ad M i := by simp [va_up, h]
    rw [e]
    unfold df
    rw [if_neg a0, if_neg a0, if_neg a1, if_neg a1]
    by_cases b2' : i % 3 = 2
    · rw [if_pos b2', if_pos b2']
      by_cases c : i / 3 = r
      · simp [va_up, c]
      · simp [va_up, c]
    · rw [if_neg b2', if_neg b2']
      by_cases b0 : i % 3 = 0
      · rw [if_pos b0, if_pos b0]
        have : ¬ i / 3 - 1 = r := by omega
        simp [va_up, this]
      · rw [if_neg b0, if_neg b0]
        by_cases c : i / 3 - 1 = r
        · simp [va_up, c]
        · simp [va_up, c]
theorem df_uf (g : Nat → Bool) : va_up (df δ ad M) (3 * r + 4) (.inl (δ.2 2, 64, .inl (fun p => b2 (g p)))) = df δ ad (va_up M r ((M r).1, (M r).2.1, (M r).2.2.1, g)) := by
  funext i
  by_cases h : i = 3 * r + 4
  · subst h
    rw [df_f]
    simp [va_up]
  · by_cases a0 : i = 0
    · subst a0; simp [va_up, df]
    by_cases a1 : i = 1
    · subst a1
      have : ¬ 1 = 3 * r + 4 := h
      simp [va_up, df, this]
    have e : va_up (df δ ad M) (3 * r + 4) (.inl (δ.2 2, 64, .inl (fun p => b2 (g p)))) i = df δ ad M i := by simp [va_up, h]
    rw [e]
    unfold df
    rw [if_neg a0, if_neg a0, if_neg a1, if_neg a1]
    by_cases b2' : i % 3 = 2
    · rw [if_pos b2', if_pos b2']
      by_cases c : i / 3 = r
      · simp [va_up, c]
      · simp [va_up, c]
    · rw [if_neg b2', if_neg b2']
      by_cases b0 : i % 3 = 0
      · rw [if_pos b0, if_pos b0]
        by_cases c : i / 3 - 1 = r
        · simp [va_up, c]
        · simp [va_up, c]
      · rw [if_neg b0, if_neg b0]
        have : ¬ i / 3 - 1 = r := by omega
        simp [va_up, this]
theorem dl_um (x y : Nat) : (dl δ ad M).set (3 * r + 2) (mq ad r, .inr (1, [.int (nI x), .int (nI y), .ref (vq ad r), .ref (fq ad r)])) = dl δ ad (va_up M r (x, y, (M r).2.2)) := by
  unfold dl
  rw [← df_um]
  exact wl_set _
theorem dl_uv (g : Nat → Int64) : (dl δ ad M).set (3 * r + 3) (vq ad r, .inl (δ.2 1, 64, .inr (.inl g))) = dl δ ad (va_up M r ((M r).1, (M r).2.1, g, (M r).2.2.2)) := by
  unfold dl
  rw [← df_uv]
  exact wl_set _
theorem dl_uf (g : Nat → Bool) : (dl δ ad M).set (3 * r + 4) (fq ad r, .inl (δ.2 2, 64, .inl (fun p => b2 (g p)))) = dl δ ad (va_up M r ((M r).1, (M r).2.1, (M r).2.2.1, g)) := by
  unfold dl
  rw [← df_uf]
  exact wl_set _
theorem dl_D {A : Nat → Prop} (hi : Inj ad) (hA : ∀ q, Ar ad q → A q) : va_D A (dl δ ad M) := wl_D hi (fun i h => hA _ ⟨i, h, rfl⟩)
end DW
end
section
/-! What the class works out, as functions of its matrices. -/
section PU
/-- a loop that may stop: from i on, n times -/
def fo {σ : Type} (f : Nat → σ → Option σ) : Nat → Nat → σ → Option σ
  | _, 0, s => some s
  | i, n + 1, s => (f i s).bind (fo f (i + 1) n)
/-- a loop -/
def fl {σ : Type} (f : Nat → σ → σ) : Nat → Nat → σ → σ
  | _, 0, s => s
  | i, n + 1, s => fl f (i + 1) n (f i s)
theorem fo_n {σ : Type} {f : Nat → σ → Option σ} {i n : Nat} {s : σ} (h : f i s = none) : fo f i (n + 1) s = none := by simp [fo, h]
theorem fo_s {σ : Type} {f : Nat → σ → Option σ} {i n : Nat} {s s' : σ} (h : f i s = some s') : fo f i (n + 1) s = fo f (i + 1) n s' := by simp [fo, h]
def mHas (m : Mx) (p : Nat) : Bool := m.2.2.2 p
def mVal (m : Mx) (p : Nat) : Int64 := m.2.2.1 p
def mEnter (m : Mx) (p : Nat) (v : Int64) : Mx := (m.1, m.2.1, vp_updL m.2.2.1 p v, va_up m.2.2.2 p true)
def mRem (m : Mx) (p : Nat) : Mx := (m.1, m.2.1, m.2.2.1, va_up m.2.2.2 p false)
def mClear (m : Mx) (x y : Nat) : Mx := (x, y, m.2.2.1, fun p => if p < 64 then false else m.2.2.2 p)
def cnt (f : Nat → Bool) : Nat → Nat
  | 0 => 0
  | n + 1 => cnt f n + (if f n then 1 else 0)
theorem cnt_le (f : Nat → Bool) : ∀ n, cnt f n ≤ n
  | 0 => Nat.le_refl _
  | n + 1 => by
    have := cnt_le f n
    simp only [cnt]
    split <;> omega
def inR (v : Int64) : Bool := decide (-1000000000000 ≤ v) && decide (v ≤ 1000000000000)
def abL (v : Int64) : Int64 := if 0 < v then v else -v
def miL (x y : Int64) : Int64 := if y < x then y else x
def maL (x y : Int64) : Int64 := if y < x then x else y

def plS (x y : Int64) : Option Int64 := if inR (x + y) then some (x + y) else none

def tiS (x y : Int64) : Option Int64 := if ¬ x = 0 ∧ 1000000000000 / abL x < abL y then none else some (x * y)
end PU
section PV
def suS (k : Nat) (x y : Int64) : Option Int64 := if k = 0 then plS x y else if k = 1 then some (miL x y) else if k = 2 then some (if ¬ x = 0 ∨ ¬ y = 0 then 1 else 0) else some (maL x y)
def prS (k : Nat) (x y : Int64) : Option Int64 := if k = 0 then tiS x y else if k = 1 then plS x y else if k = 2 then some (if ¬ x = 0 ∧ ¬ y = 0 then 1 else 0) else some (miL x y)
/-- one value more at a place -/
def gaS (k : Nat) (S : Mx) (p : Nat) (v : Int64) : Option Mx := if mHas S p = true then (suS k (mVal S p) v).map (mEnter S p) else some (mEnter S p v)
def gpS (k : Nat) (L R : Mx) (i j : Nat) (t : Nat) (S : Mx) : Option Mx :=
  if mHas L (8 * i + t) = true ∧ mHas R (8 * t + j) = true then (prS k (mVal L (8 * i + t)) (mVal R (8 * t + j))).bind (gaS k S (8 * i + j)) else some S
def gAj (k : Nat) (F : Mx) (i j : Nat) (S : Mx) : Option Mx := if mHas F (8 * i + j) = true then gaS k S (8 * i + j) (mVal F (8 * i + j)) else some S
def gAi (k : Nat) (F : Mx) (i : Nat) (S : Mx) : Option Mx := fo (gAj k F i) 0 F.2.1 S
def gA (k : Nat) (F S : Mx) : Option Mx := fo (gAi k F) 0 F.1 S
def dzj (i j : Nat) (S : Mx) : Mx := if mHas S (8 * i + j) = true ∧ mVal S (8 * i + j) = 0 then mRem S (8 * i + j) else S
def dzi (c i : Nat) (S : Mx) : Mx := fl (dzj i) 0 c S
def dz (k : Nat) (S : Mx) : Mx := if k = 0 ∨ k = 2 then fl (dzi S.2.1) 0 S.1 S else S
def muj (k : Nat) (L R : Mx) (mk : Nat → Bool) (i j : Nat) (S : Mx) : Option Mx := if mk (8 * i + j) = true then fo (gpS k L R i j) 0 L.2.1 S else some S
def mui (k : Nat) (L R : Mx) (mk : Nat → Bool) (i : Nat) (S : Mx) : Option Mx := fo (muj k L R mk i) 0 R.2.1 S
def mu (k : Nat) (L R : Mx) (mk : Nat → Bool) (S : Mx) : Option Mx := fo (mui k L R mk) 0 L.1 S
def eaj (k : Nat) (L R : Mx) (i j : Nat) (S : Mx) : Option Mx := if mHas L (8 * i + j) = true ∧ mHas R (8 * i + j) = true then (prS k (mVal L (8 * i + j)) (mVal R (8 * i + j))).map (mEnter S (8 * i + j)) else some S
def eai (k : Nat) (L R : Mx) (i : Nat) (S : Mx) : Option Mx := fo (eaj k L R i) 0 L.2.1 S
def ea (k : Nat) (L R S : Mx) : Option Mx := fo (eai k L R) 0 L.1 S
def trj (F : Mx) (i j : Nat) (S : Mx) : Mx := if mHas F (8 * i + j) = true then mEnter S (8 * j + i) (mVal F (8 * i + j)) else S
def tri (F : Mx) (i : Nat) (S : Mx) : Mx := fl (trj F i) 0 F.2.1 S
def tr (F S : Mx) : Mx := fl (tri F) 0 F.1 S
def selB (h i j : Nat) (v x : Int64) : Prop := if h = 0 then v < x else if h = 1 then x < v else if h = 2 then i < j else if h = 3 then j < i else i = j
def slj (h : Nat) (x : Int64) (F : Mx) (i j : Nat) (S : Mx) : Mx := if mHas F (8 * i + j) = true ∧ (if h = 0 then mVal F (8 * i + j) < x else if h = 1 then x < mVal F (8 * i + j) else if h = 2 then i < j else if h = 3 then j < i else i = j) then mEnter S (8 * i + j) (mVal F (8 * i + j)) else S
end PV
end
section
/-! the desk's fields and arrays, by its matrices -/
section DR
variable {κ : KX} {own : String} {cc : ByteArray} {nL : Nat} {rt : Option FieldType} {δ : EX} {rm : Room} {A0 : Nat → Prop} {hh : List (Nat × Nat × Nat × Nat)} {K : Heap → List Loc → Prop} {Q : State → Prop} {cs sl : Nat} {lv : List (Nat × Value)} {st : List Value} {pc idx : Nat} {ad : Nat → Nat} {M : DS} {r : Nat}
theorem r_regs (X : XO κ R_D cc nL rt δ rm A0 hh) (hd : decode cc pc = .ok (.getfield 11, 3)) (n : G κ nL δ K Q cs sl (dl δ ad M) lv (.ref (ad 1) :: st) (pc + 3)) : G κ nL δ K Q cs sl (dl δ ad M) lv (.ref (ad 0) :: st) pc :=
  g_get X in_D rfl dl_0 (k := 0) (by decide) rfl kf_D_11 rfl hd n
theorem r_spare (X : XO κ R_D cc nL rt δ rm A0 hh) (hd : decode cc pc = .ok (.getfield 16, 3)) (n : G κ nL δ K Q cs sl (dl δ ad M) lv (.ref (mq ad 6) :: st) (pc + 3)) : G κ nL δ K Q cs sl (dl δ ad M) lv (.ref (ad 0) :: st) pc :=
  g_get X in_D rfl dl_0 (k := 1) (by decide) rfl kf_D_16 rfl hd n
theorem r_aald (X : XO κ own cc nL rt δ rm A0 hh) {i : Int32} (hi : i = nI r) (hr : r < 6) (hd : decode cc pc = .ok (.aaload, 1)) (n : G κ nL δ K Q cs sl (dl δ ad M) lv (.ref (mq ad r) :: st) (pc + 1)) : G κ nL δ K Q cs sl (dl δ ad M) lv (.int i :: .ref (ad 1) :: st) pc :=
  g_aald X dl_1 hi hr (if_pos hr) (by decide) hd n
theorem r_rows (X : XO κ own cc nL rt δ rm A0 hh) (hf : Cond.fieldLink own idx R_M "rows" "I" ∈ gl) (hd : decode cc pc = .ok (.getfield idx, 3)) (hr : r < 7) (n : G κ nL δ K Q cs sl (dl δ ad M) lv (.int (nI (M r).1) :: st) (pc + 3)) : G κ nL δ K Q cs sl (dl δ ad M) lv (.ref (mq ad r) :: st) pc :=
  g_get X in_M rfl (dl_m hr) (k := 0) (by decide) rfl hf rfl hd n
theorem r_cols (X : XO κ own cc nL rt δ rm A0 hh) (hf : Cond.fieldLink own idx R_M "columns" "I" ∈ gl) (hd : decode cc pc = .ok (.getfield idx, 3)) (hr : r < 7) (n : G κ nL δ K Q cs sl (dl δ ad M) lv (.int (nI (M r).2.1) :: st) (pc + 3)) : G κ nL δ K Q cs sl (dl δ ad M) lv (.ref (mq ad r) :: st) pc :=
  g_get X in_M rfl (dl_m hr) (k := 1) (by decide) rfl hf rfl hd n
theorem r_vals (X : XO κ own cc nL rt δ rm A0 hh) (hf : Cond.fieldLink own idx R_M "values" "[J" ∈ gl) (hd : decode cc pc = .ok (.getfield idx, 3)) (hr : r < 7) (n : G κ nL δ K Q cs sl (dl δ ad M) lv (.ref (vq ad r) :: st) (pc + 3)) : G κ nL δ K Q cs sl (dl δ ad M) lv (.ref (mq ad r) :: st) pc :=
  g_get X in_M rfl (dl_m hr) (k := 2) (by decide) rfl hf rfl hd n
theorem r_fils (X : XO κ own cc nL rt δ rm A0 hh) (hf : Cond.fieldLink own idx R_M "filled" "[Z" ∈ gl) (hd : decode cc pc = .ok (.getfield idx, 3)) (hr : r < 7) (n : G κ nL δ K Q cs sl (dl δ ad M) lv (.ref (fq ad r) :: st) (pc + 3)) : G κ nL δ K Q cs sl (dl δ ad M) lv (.ref (mq ad r) :: st) pc :=
  g_get X in_M rfl (dl_m hr) (k := 3) (by decide) rfl hf rfl hd n
theorem r_lald (X : XO κ own cc nL rt δ rm A0 hh) {i : Int32} {j : Nat} (hi : i = nI j) (hj : j < 64) (hr : r < 7) (hd : decode cc pc = .ok (.laload, 1)) (n : G κ nL δ K Q cs sl (dl δ ad M) lv (.long (mVal (M r) j) :: st) (pc + 1)) : G κ nL δ K Q cs sl (dl δ ad M) lv (.int i :: .ref (vq ad r) :: st) pc :=
  g_lald X (dl_v hr) hi hj (by decide) hd n
theorem r_zald (X : XO κ own cc nL rt δ rm A0 hh) {i : Int32} {j : Nat} (hi : i = nI j) (hj : j < 64) (hr : r < 7) (hd : decode cc pc = .ok (.baload, 1)) (n : G κ nL δ K Q cs sl (dl δ ad M) lv (.int (b2 (mHas (M r) j)) :: st) (pc + 1)) : G κ nL δ K Q cs sl (dl δ ad M) lv (.int i :: .ref (fq ad r) :: st) pc :=
  g_zald X (dl_f hr) hi hj (by decide) hd n
theorem r_flen (X : XO κ own cc nL rt δ rm A0 hh) (hr : r < 7) (hd : decode cc pc = .ok (.arraylength, 1)) (n : G κ nL δ K Q cs sl (dl δ ad M) lv (.int (nI 64) :: st) (pc + 1)) : G κ nL δ K Q cs sl (dl δ ad M) lv (.ref (fq ad r) :: st) pc :=
  g_alen X (dl_f hr) (t0 := 2) rfl hd n
theorem Ar_D (hi : Inj ad) {n : Nat} {M : DS} : va_D (fun q => Ar ad q ∨ n ≤ q) (dl δ ad M) := dl_D hi (fun _ h => Or.inl h)
theorem r_putr (X : XO κ own cc nL rt δ rm (Ar ad) hh) (hinj : Inj ad) (hf : Cond.fieldLink own idx R_M "rows" "I" ∈ gl) {x : Nat} (hd : decode cc pc = .ok (.putfield idx, 3)) (hr : r < 7) (n : G κ nL δ (Kn κ (Ar ad)) Q cs sl (dl δ ad (va_up M r (x, (M r).2.1, (M r).2.2))) lv st (pc + 3)) : G κ nL δ (Kn κ (Ar ad)) Q cs sl (dl δ ad M) lv (.int (nI x) :: .ref (mq ad r) :: st) pc := by
  rw [← dl_um] at n
  exact g_put X in_M rfl t_M_ok n_M (Ar_D hinj) (dl_m hr) (k := 0) (ty := .int) (by decide) rfl hf rfl (by decide +kernel) rfl rfl (Nat.lt_of_lt_of_eq (by decide : _ < 4) rfl) hd n
theorem r_putc (X : XO κ own cc nL rt δ rm (Ar ad) hh) (hinj : Inj ad) (hf : Cond.fieldLink own idx R_M "columns" "I" ∈ gl) {x : Nat} (hd : decode cc pc = .ok (.putfield idx, 3)) (hr : r < 7) (n : G κ nL δ (Kn κ (Ar ad)) Q cs sl (dl δ ad (va_up M r ((M r).1, x, (M r).2.2))) lv st (pc + 3)) : G κ nL δ (Kn κ (Ar ad)) Q cs sl (dl δ ad M) lv (.int (nI x) :: .ref (mq ad r) :: st) pc := by
  rw [← dl_um] at n
  exact g_put X in_M rfl t_M_ok n_M (Ar_D hinj) (dl_m hr) (k := 1) (ty := .int) (by decide) rfl hf rfl (by decide +kernel) rfl rfl (Nat.lt_of_lt_of_eq (by decide : _ < 4) rfl) hd n
theorem r_last (X : XO κ own cc nL rt δ rm (Ar ad) hh) (hinj : Inj ad) {i : Int32} {j : Nat} {v : Int64} (hi : i = nI j) (hj : j < 64) (hr : r < 7) (hd : decode cc pc = .ok (.lastore, 1)) (n : G κ nL δ (Kn κ (Ar ad)) Q cs sl (dl δ ad (va_up M r ((M r).1, (M r).2.1, vp_updL (M r).2.2.1 j v, (M r).2.2.2))) lv st (pc + 1)) : G κ nL δ (Kn κ (Ar ad)) Q cs sl (dl δ ad M) lv (.long v :: .int i :: .ref (vq ad r) :: st) pc := by
  rw [← dl_uv] at n
  exact g_last X (Ar_D hinj) (dl_v hr) hi hj (by decide) hd n
theorem upd_b2 (f : Nat → Bool) (j : Nat) (b : Bool) : upd (fun p => b2 (f p)) j (b2 b) = fun p => b2 (va_up f j b p) := by
  funext p
  unfold upd va_up
  split <;> rfl
theorem r_zast (X : XO κ own cc nL rt δ rm (Ar ad) hh) (hinj : Inj ad) {i x : Int32} {j : Nat} (b : Bool) (hi : i = nI j) (hj : j < 64) (hr : r < 7) (hx : vp_nar .boolean x = b2 b) (hd : decode cc pc = .ok (.bastore, 1)) (n : G κ nL δ (Kn κ (Ar ad)) Q cs sl (dl δ ad (va_up M r ((M r).1, (M r).2.1, (M r).2.2.1, va_up (M r).2.2.2 j b))) lv st (pc + 1)) : G κ nL δ (Kn κ (Ar ad)) Q cs sl (dl δ ad M) lv (.int x :: .int i :: .ref (fq ad r) :: st) pc := by
  rw [← dl_uf, ← upd_b2] at n
  exact g_zast X (Ar_D hinj) (dl_f hr) hi hj (by decide) hx hd n
theorem ix8 {i j : Nat} : nI i * 8 + nI j = nI (8 * i + j) := by
  have h : (8 : Int32) = nI 8 := by decide
  rw [h, pk_mul, nI_add, Nat.mul_comm]
end DR
end
section
/-! calls by their bundles of words; rooms by levels -/
section GE
def RM (d : Nat) : Room := { frames := 6 + d, cells := 1, slots := 6, locals := 90 + 40 * d }
variable {κ : KX} {own : String} {cc : ByteArray} {nL : Nat} {rt : Option FieldType} {δ : EX} {rm : Room} {A0 : Nat → Prop} {hh : List (Nat × Nat × Nat × Nat)} {K : Heap → List Loc → Prop} {Q : State → Prop} {cs sl : Nat} {ws : va_W} {lv : List (Nat × Value)} {st : List Value} {pc idx : Nat} {P P' : OC → va_W → Prop}
variable {y : MethodName} {rm2 : Room} {av : List Value} {cc2 : ByteArray} {nL2 : Nat} {rt2 : Option FieldType} {rest stk : List Value} {b : Nat}
def RmOk (rm rm2 : Room) (nL2 cs sl : Nat) (rest : List Value) : Prop := rm2.frames + 1 ≤ rm.frames ∧ (rest.map fun v => v.category).sum + (nL2 + 11) + rm2.locals ≤ rm.locals ∧ cs + rm2.cells ≤ rm.cells ∧ sl + rm2.slots ≤ rm.slots
/-- a call that changes nothing and returns: static -/
theorem g_SP (X : XO κ own cc nL rt δ rm A0 hh) (hKO : KOk κ A0 K) (w : SW own idx y (.code y cc2 nL2 rt2) av.length) {v : Option Value} (hC : CTP (xl κ) y (.code y cc2 nL2 rt2) rm2 δ ws av (.inr v)) (hd : decode cc pc = .ok (.invokestatic idx, 3)) (hst : stk = av.reverse ++ rest) (hrm : RmOk rm rm2 nL2 cs sl rest)
    (n : G κ nL δ K Q cs sl ws lv (v.toList ++ rest) (pc + 3)) : G κ nL δ K Q cs sl ws lv stk pc :=
  g_callP X hKO (inv_S X (hh2 := []) (Or.inl rfl) w.2.2.2.1 w.1 w.2.1 w.2.2.1 w.2.2.2.2.1 w.2.2.2.2.2 hd hst) hC (hh2 := []) (Or.inl rfl) w.2.2.2.1 w.2.2.1 hd hrm n
/-- .. and throws -/
theorem g_ST (X : XO κ own cc nL rt δ rm A0 []) (hKO : KOk κ A0 K) (w : SW own idx y (.code y cc2 nL2 rt2) av.length) {z : Nat} (hC : CTP (xl κ) y (.code y cc2 nL2 rt2) rm2 δ ws av (.inl z)) (hd : decode cc pc = .ok (.invokestatic idx, 3)) (hst : stk = av.reverse ++ rest) (hrm : RmOk rm rm2 nL2 0 0 rest)
    (hp : P' (.inl z) ws) : G κ nL δ K (Qe κ δ A0 P') 0 0 ws lv stk pc :=
  g_callPT X hKO (inv_S X (hh2 := []) (Or.inl rfl) w.2.2.2.1 w.1 w.2.1 w.2.2.1 w.2.2.2.2.1 w.2.2.2.2.2 hd hst) hC (hh2 := []) (Or.inl rfl) w.2.2.2.1 w.2.2.1 hd hrm hp
/-- a static call by its contract -/
theorem g_SN (X : XO κ own cc nL rt δ rm A0 []) (w : SW own idx y (.code y cc2 nL2 rt2) av.length) (hC : CT (xl κ) y (.code y cc2 nL2 rt2) rm2 δ A0 ws av P) (hd : decode cc pc = .ok (.invokestatic idx, 3)) (hst : stk = av.reverse ++ rest) (hrm : RmOk rm rm2 nL2 0 0 rest)
    (n : ∀ v w, P (.inr v) w → G κ nL δ (Kn κ A0) (Qe κ δ A0 P') 0 0 w lv (v.toList ++ rest) (pc + 3)) (kt : ∀ z w, P (.inl z) w → P' (.inl z) w) : G κ nL δ (Kn κ A0) (Qe κ δ A0 P') 0 0 ws lv stk pc :=
  g_call X (inv_S X (hh2 := []) (Or.inl rfl) w.2.2.2.1 w.1 w.2.1 w.2.2.1 w.2.2.2.2.1 w.2.2.2.2.2 hd hst) hC (hh2 := []) (Or.inl rfl) w.2.2.2.1 w.2.2.1 hd hrm n kt
/-- virtual ones: the receiver is the cell q0 of the world -/
theorem g_VP (X : XO κ own cc nL rt δ rm A0 hh) (hKO : KOk κ A0 K) (w : VW own idx y (.code y cc2 nL2 rt2) av.length) {q0 ci N : Nat} {fs : List Value} {T0 : u_T} (he : ws[q0]? = some (b, .inr (ci, fs))) (hc : vwCl[ci]? = some (y.cls, T0, N)) {v : Option Value} (hC : CTP (xl κ) y (.code y cc2 nL2 rt2) rm2 δ ws (.ref b :: av) (.inr v)) (hd : decode cc pc = .ok (.invokevirtual idx, 3)) (hst : stk = av.reverse ++ .ref b :: rest) (hrm : RmOk rm rm2 nL2 cs sl rest)
    (n : G κ nL δ K Q cs sl ws lv (v.toList ++ rest) (pc + 3)) : G κ nL δ K Q cs sl ws lv stk pc :=
  g_callP X hKO (inv_V X (hh2 := []) (Or.inl rfl) w.2.2.2.1 w.1 w.2.1.1 w.2.1.2 w.2.2.2.2.1 w.2.2.2.2.2 hd hst he hc) hC (hh2 := []) (Or.inl rfl) w.2.2.2.1 w.2.2.1 hd hrm n
theorem g_VT (X : XO κ own cc nL rt δ rm A0 []) (hKO : KOk κ A0 K) (w : VW own idx y (.code y cc2 nL2 rt2) av.length) {q0 ci N : Nat} {fs : List Value} {T0 : u_T} (he : ws[q0]? = some (b, .inr (ci, fs))) (hc : vwCl[ci]? = some (y.cls, T0, N)) {z : Nat} (hC : CTP (xl κ) y (.code y cc2 nL2 rt2) rm2 δ ws (.ref b :: av) (.inl z)) (hd : decode cc pc = .ok (.invokevirtual idx, 3)) (hst : stk = av.reverse ++ .ref b :: rest) (hrm : RmOk rm rm2 nL2 0 0 rest)
    (hp : P' (.inl z) ws) : G κ nL δ K (Qe κ δ A0 P') 0 0 ws lv stk pc :=
  g_callPT X hKO (inv_V X (hh2 := []) (Or.inl rfl) w.2.2.2.1 w.1 w.2.1.1 w.2.1.2 w.2.2.2.2.1 w.2.2.2.2.2 hd hst he hc) hC (hh2 := []) (Or.inl rfl) w.2.2.2.1 w.2.2.1 hd hrm hp
theorem g_VN (X : XO κ own cc nL rt δ rm A0 []) (w : VW own idx y (.code y cc2 nL2 rt2) av.length) {q0 ci N : Nat} {fs : List Value} {T0 : u_T} (he : ws[q0]? = some (b, .inr (ci, fs))) (hc : vwCl[ci]? = some (y.cls, T0, N)) (hC : CT (xl κ) y (.code y cc2 nL2 rt2) rm2 δ A0 ws (.ref b :: av) P) (hd : decode cc pc = .ok (.invokevirtual idx, 3)) (hst : stk = av.reverse ++ .ref b :: rest) (hrm : RmOk rm rm2 nL2 0 0 rest)
    (n : ∀ v w, P (.inr v) w → G κ nL δ (Kn κ A0) (Qe κ δ A0 P') 0 0 w lv (v.toList ++ rest) (pc + 3)) (kt : ∀ z w, P (.inl z) w → P' (.inl z) w) : G κ nL δ (Kn κ A0) (Qe κ δ A0 P') 0 0 ws lv stk pc :=
  g_call X (inv_V X (hh2 := []) (Or.inl rfl) w.2.2.2.1 w.1 w.2.1.1 w.2.1.2 w.2.2.2.2.1 w.2.2.2.2.2 hd hst he hc) hC (hh2 := []) (Or.inl rfl) w.2.2.2.1 w.2.2.1 hd hrm n kt
theorem g_sb {lv' : List (Nat × Value)} (n : G κ nL δ K Q cs sl ws lv' st pc) (hs : lvSub lv' lv) : G κ nL δ K Q cs sl ws lv st pc := g_sub hs n
/-- a contract with one end and no throw -/
abbrev CTN (l : Launch) (y : MethodName) (cw : Cond) (rm : Room) (δ : EX) (A0 : Nat → Prop) (ws : va_W) (av : List Value) (v : Option Value) (ws' : va_W) : Prop := CT l y cw rm δ A0 ws av (fun r w => r = .inr v ∧ w = ws')
theorem b2_nar (b : Bool) : narrow .boolean (.int (b2 b)) = .int (b2 b) := by cases b <;> rfl
theorem b2_0 {b : Bool} : b2 b = 0 ↔ b = false := by cases b <;> decide
end GE
end
section
section GU
variable {κ : KX} {cc : ByteArray} {nL : Nat} {rt : Option FieldType} {δ : EX} {rm : Room} {A0 : Nat → Prop} {ws : va_W} {lv : List (Nat × Value)} {pc is : Nat} {tx : String} {P : OC → va_W → Prop}
theorem e1_0 : decode prog_6_method_2_code 0 = .ok (.aload_n 0, 1) := by decide +kernel
theorem e1_1 : decode prog_6_method_2_code 1 = .ok (.aload_n 1, 1) := by decide +kernel
theorem e1_2 : decode prog_6_method_2_code 2 = .ok (.invokespecial 7, 3) := by decide +kernel
theorem e1_5 : decode prog_6_method_2_code 5 = .ok (.return_, 1) := by decide +kernel
theorem e2_0 : decode prog_7_method_2_code 0 = .ok (.aload_n 0, 1) := by decide +kernel
theorem e2_1 : decode prog_7_method_2_code 1 = .ok (.aload_n 1, 1) := by decide +kernel
theorem e2_2 : decode prog_7_method_2_code 2 = .ok (.invokespecial 7, 3) := by decide +kernel
theorem e2_5 : decode prog_7_method_2_code 5 = .ok (.return_, 1) := by decide +kernel
theorem e3_0 : decode prog_13_method_4_code 0 = .ok (.aload_n 0, 1) := by decide +kernel
theorem e3_1 : decode prog_13_method_4_code 1 = .ok (.aload_n 1, 1) := by decide +kernel
theorem e3_2 : decode prog_13_method_4_code 2 = .ok (.invokespecial 13, 3) := by decide +kernel
theorem e3_5 : decode prog_13_method_4_code 5 = .ok (.return_, 1) := by decide +kernel
theorem e4_0 : decode prog_12_method_2_code 0 = .ok (.aload_n 0, 1) := by decide +kernel
theorem e4_1 : decode prog_12_method_2_code 1 = .ok (.aload_n 1, 1) := by decide +kernel
theorem e4_2 : decode prog_12_method_2_code 2 = .ok (.invokespecial 7, 3) := by decide +kernel
theorem e4_5 : decode prog_12_method_2_code 5 = .ok (.return_, 1) := by decide +kernel
theorem x_1 (X : XO κ R_D cc nL rt δ rm A0 []) (hs : Cond.stringRef R_D is tx ∈ gl) (hd0 : decode cc pc = .ok (.new 189, 3)) (hd1 : decode cc (pc + 3) = .ok (.dup, 1)) (hd2 : decode cc (pc + 3 + 1) = .ok (.ldc is, 2)) (hd3 : decode cc (pc + 3 + 1 + 2) = .ok (.invokespecial 193, 3)) (hd4 : decode cc (pc + 3 + 1 + 2 + 3) = .ok (.athrow, 1))
    (hrm : 5 < rm.frames ∧ 82 ≤ rm.locals ∧ 1 ≤ rm.cells ∧ 6 ≤ rm.slots) (hp : P (.inl 1) ws) : G κ nL δ (Kp κ) (Qe κ δ A0 P) 0 0 ws lv [] pc :=
  g_throw X 1 e1_0 e1_1 e1_2 e1_5 at_1 (by decide) kk_D_189 kn_IllegalArgumentException ki_IllegalArgumentException hs hd0 hd1 hd2 hd3 hd4 hrm hp
theorem x_2 (X : XO κ R_D cc nL rt δ rm A0 []) (hs : Cond.stringRef R_D is tx ∈ gl) (hd0 : decode cc pc = .ok (.new 209, 3)) (hd1 : decode cc (pc + 3) = .ok (.dup, 1)) (hd2 : decode cc (pc + 3 + 1) = .ok (.ldc is, 2)) (hd3 : decode cc (pc + 3 + 1 + 2) = .ok (.invokespecial 213, 3)) (hd4 : decode cc (pc + 3 + 1 + 2 + 3) = .ok (.athrow, 1))
    (hrm : 5 < rm.frames ∧ 82 ≤ rm.locals ∧ 1 ≤ rm.cells ∧ 6 ≤ rm.slots) (hp : P (.inl 2) ws) : G κ nL δ (Kp κ) (Qe κ δ A0 P) 0 0 ws lv [] pc :=
  g_throw X 2 e2_0 e2_1 e2_2 e2_5 at_2 (by decide) kk_D_209 kn_IllegalStateException ki_IllegalStateException hs hd0 hd1 hd2 hd3 hd4 hrm hp
theorem x_3 (X : XO κ R_D cc nL rt δ rm A0 []) (hs : Cond.stringRef R_D is tx ∈ gl) (hd0 : decode cc pc = .ok (.new 204, 3)) (hd1 : decode cc (pc + 3) = .ok (.dup, 1)) (hd2 : decode cc (pc + 3 + 1) = .ok (.ldc is, 2)) (hd3 : decode cc (pc + 3 + 1 + 2) = .ok (.invokespecial 208, 3)) (hd4 : decode cc (pc + 3 + 1 + 2 + 3) = .ok (.athrow, 1))
    (hrm : 5 < rm.frames ∧ 82 ≤ rm.locals ∧ 1 ≤ rm.cells ∧ 6 ≤ rm.slots) (hp : P (.inl 3) ws) : G κ nL δ (Kp κ) (Qe κ δ A0 P) 0 0 ws lv [] pc :=
  g_throw X 3 e3_0 e3_1 e3_2 e3_5 at_3 (by decide) kk_D_204 kn_NoSuchElementException ki_NoSuchElementException hs hd0 hd1 hd2 hd3 hd4 hrm hp
theorem x_4 (X : XO κ R_D cc nL rt δ rm A0 []) (hs : Cond.stringRef R_D is tx ∈ gl) (hd0 : decode cc pc = .ok (.new 168, 3)) (hd1 : decode cc (pc + 3) = .ok (.dup, 1)) (hd2 : decode cc (pc + 3 + 1) = .ok (.ldc is, 2)) (hd3 : decode cc (pc + 3 + 1 + 2) = .ok (.invokespecial 172, 3)) (hd4 : decode cc (pc + 3 + 1 + 2 + 3) = .ok (.athrow, 1))
    (hrm : 5 < rm.frames ∧ 82 ≤ rm.locals ∧ 1 ≤ rm.cells ∧ 6 ≤ rm.slots) (hp : P (.inl 4) ws) : G κ nL δ (Kp κ) (Qe κ δ A0 P) 0 0 ws lv [] pc :=
  g_throw X 4 e4_0 e4_1 e4_2 e4_5 at_4 (by decide) kk_D_168 kn_UnsupportedOperationException ki_UnsupportedOperationException hs hd0 hd1 hd2 hd3 hd4 hrm hp
end GU
end
section
section MA
theorem va_up_s {α : Type} (f : Nat → α) (k : Nat) (v : α) : va_up f k v k = v := by simp [va_up]
theorem va_up_n {α : Type} {f : Nat → α} {k j : Nat} (v : α) (h : j ≠ k) : va_up f k v j = f j := by simp [va_up, h]
set_option maxHeartbeats 4000000 in
set_option maxRecDepth 100000 in
theorem c_M_has {l : Launch} (htr : l.stackTraces = false) {δ : EX} {ad : Nat → Nat} {M : DS} {r i j : Nat} (hr : r < 7) (hi : i < 8) (hj : j < 8) : CTP l y_M_has cw_M_has (RM 0) δ (dl δ ad M) [.ref (mq ad r), .int (nI i), .int (nI j)] (.inr (some (.int (b2 (mHas (M r) (8 * i + j)))))) := by
  refine CT.ofP (lv := [(0, .ref (mq ad r)), (1, .int (nI i)), (2, .int (nI j))]) (Or.inl ⟨rfl, rfl⟩) (by decide) htr rfl (Nat.le_of_ble_eq_true rfl) (fun κ hl X => ?_)
  subst hl
  refine g_aload_n X 0 d_M_has_0 rfl rfl ?_
  refine r_fils X kf_M_22 d_M_has_1 (by omega) ?_
  refine g_iload_n X 1 d_M_has_4 rfl rfl ?_
  refine g_bipush X (v := 8) d_M_has_5 (by decide) ?_
  refine g_imul X d_M_has_7 ?_
  refine g_iload_n X 2 d_M_has_8 rfl rfl ?_
  refine g_iadd X d_M_has_9 ?_
  refine r_zald X ix8 (by omega) (by omega) d_M_has_10 ?_
  exact g_zret X KOk.p (b2_nar _) d_M_has_11 ⟨rfl, rfl⟩
set_option maxHeartbeats 4000000 in
set_option maxRecDepth 100000 in
theorem c_M_value {l : Launch} (htr : l.stackTraces = false) {δ : EX} {ad : Nat → Nat} {M : DS} {r i j : Nat} (hr : r < 7) (hi : i < 8) (hj : j < 8) : CTP l y_M_value cw_M_value (RM 0) δ (dl δ ad M) [.ref (mq ad r), .int (nI i), .int (nI j)] (.inr (some (.long (mVal (M r) (8 * i + j))))) := by
  refine CT.ofP (lv := [(0, .ref (mq ad r)), (1, .int (nI i)), (2, .int (nI j))]) (Or.inl ⟨rfl, rfl⟩) (by decide) htr rfl (Nat.le_of_ble_eq_true rfl) (fun κ hl X => ?_)
  subst hl
  refine g_aload_n X 0 d_M_value_0 rfl rfl ?_
  refine r_vals X kf_M_18 d_M_value_1 (by omega) ?_
  refine g_iload_n X 1 d_M_value_4 rfl rfl ?_
  refine g_bipush X (v := 8) d_M_value_5 (by decide) ?_
  refine g_imul X d_M_value_7 ?_
  refine g_iload_n X 2 d_M_value_8 rfl rfl ?_
  refine g_iadd X d_M_value_9 ?_
  refine r_lald X ix8 (by omega) (by omega) d_M_value_10 ?_
  exact g_lret X KOk.p d_M_value_11 ⟨rfl, rfl⟩
set_option maxHeartbeats 4000000 in
set_option maxRecDepth 100000 in
theorem c_M_enter {l : Launch} (htr : l.stackTraces = false) {δ : EX} {ad : Nat → Nat} {M : DS} (hinj : Inj ad) {r i j : Nat} {v : Int64} (hr : r < 7) (hi : i < 8) (hj : j < 8) : CTN l y_M_enter cw_M_enter (RM 0) δ (Ar ad) (dl δ ad M) [.ref (mq ad r), .int (nI i), .int (nI j), .long v] none (dl δ ad (va_up M r (mEnter (M r) (8 * i + j) v))) := by
  refine CT.ofN (lv := [(0, .ref (mq ad r)), (1, .int (nI i)), (2, .int (nI j)), (3, .long v)]) (Or.inl ⟨rfl, rfl⟩) (by decide) htr rfl (Nat.le_of_ble_eq_true rfl) (fun κ hl X => ?_)
  subst hl
  refine g_aload_n X 0 d_M_enter_0 rfl rfl ?_
  refine r_vals X kf_M_18 d_M_enter_1 (by omega) ?_
  refine g_iload_n X 1 d_M_enter_4 rfl rfl ?_
  refine g_bipush X (v := 8) d_M_enter_5 (by decide) ?_
  refine g_imul X d_M_enter_7 ?_
  refine g_iload_n X 2 d_M_enter_8 rfl rfl ?_
  refine g_iadd X d_M_enter_9 ?_
  refine g_lload_n X 3 d_M_enter_10 rfl rfl ?_
  refine r_last X hinj ix8 (by omega) hr d_M_enter_11 ?_
  refine g_aload_n X 0 d_M_enter_12 rfl rfl ?_
  refine r_fils X kf_M_22 d_M_enter_13 (by omega) ?_
  refine g_iload_n X 1 d_M_enter_16 rfl rfl ?_
  refine g_bipush X (v := 8) d_M_enter_17 (by decide) ?_
  refine g_imul X d_M_enter_19 ?_
  refine g_iload_n X 2 d_M_enter_20 rfl rfl ?_
  refine g_iadd X d_M_enter_21 ?_
  refine g_iconst X (v := 1) d_M_enter_22 (by decide) ?_
  refine r_zast X hinj true ix8 (by omega) hr (by decide) d_M_enter_23 ?_
  refine g_vret X KOk.n d_M_enter_24 ⟨rfl, ?_⟩
  simp only [bx_uu, va_up_s, mEnter]
set_option maxHeartbeats 4000000 in
set_option maxRecDepth 100000 in
theorem c_M_remove {l : Launch} (htr : l.stackTraces = false) {δ : EX} {ad : Nat → Nat} {M : DS} (hinj : Inj ad) {r i j : Nat} (hr : r < 7) (hi : i < 8) (hj : j < 8) : CTN l y_M_remove cw_M_remove (RM 0) δ (Ar ad) (dl δ ad M) [.ref (mq ad r), .int (nI i), .int (nI j)] none (dl δ ad (va_up M r (mRem (M r) (8 * i + j)))) := by
  refine CT.ofN (lv := [(0, .ref (mq ad r)), (1, .int (nI i)), (2, .int (nI j))]) (Or.inl ⟨rfl, rfl⟩) (by decide) htr rfl (Nat.le_of_ble_eq_true rfl) (fun κ hl X => ?_)
  subst hl
  refine g_aload_n X 0 d_M_remove_0 rfl rfl ?_
  refine r_fils X kf_M_22 d_M_remove_1 (by omega) ?_
  refine g_iload_n X 1 d_M_remove_4 rfl rfl ?_
  refine g_bipush X (v := 8) d_M_remove_5 (by decide) ?_
  refine g_imul X d_M_remove_7 ?_
  refine g_iload_n X 2 d_M_remove_8 rfl rfl ?_
  refine g_iadd X d_M_remove_9 ?_
  refine g_iconst X (v := 0) d_M_remove_10 (by decide) ?_
  refine r_zast X hinj false ix8 (by omega) hr (by decide) d_M_remove_11 ?_
  exact g_vret X KOk.n d_M_remove_12 ⟨rfl, rfl⟩
end MA
end
section
section MB
set_option maxHeartbeats 4000000 in
set_option maxRecDepth 100000 in
theorem c_M_isShaped {l : Launch} (htr : l.stackTraces = false) {δ : EX} {ad : Nat → Nat} {M : DS} {r x y : Nat} (hr : r < 7) (h1 : (M r).1 ≤ 8) (h2 : (M r).2.1 ≤ 8) (hx : x ≤ 8) (hy : y ≤ 8) : CTP l y_M_isShaped cw_M_isShaped (RM 0) δ (dl δ ad M) [.ref (mq ad r), .int (nI x), .int (nI y)] (.inr (some (.int (b2 (decide ((M r).1 = x ∧ (M r).2.1 = y)))))) := by
  refine CT.ofP (lv := [(0, .ref (mq ad r)), (1, .int (nI x)), (2, .int (nI y))]) (Or.inl ⟨rfl, rfl⟩) (by decide) htr rfl (Nat.le_of_ble_eq_true rfl) (fun κ hl X => ?_)
  subst hl
  refine g_aload_n X 0 d_M_isShaped_0 rfl rfl ?_
  refine r_rows X kf_M_9 d_M_isShaped_1 (by omega) ?_
  refine g_iload_n X 1 d_M_isShaped_4 rfl rfl ?_
  refine g_icmp_ne X 20 d_M_isShaped_5 (by decide) (fun hc => ?_) (fun hc => ?_)
  · refine g_iconst X (v := 0) d_M_isShaped_20 (by decide) ?_
    exact g_zret X KOk.p (by decide) d_M_isShaped_21 ⟨by rw [decide_eq_false (fun q => hc (by rw [q.1]))]; rfl, rfl⟩
  · have e1 : (M r).1 = x := (nI_eq (by omega) (by omega)).mp hc
    refine g_aload_n X 0 d_M_isShaped_8 rfl rfl ?_
    refine r_cols X kf_M_15 d_M_isShaped_9 (by omega) ?_
    refine g_iload_n X 2 d_M_isShaped_12 rfl rfl ?_
    refine g_icmp_ne X 20 d_M_isShaped_13 (by decide) (fun hd => ?_) (fun hd => ?_)
    · refine g_iconst X (v := 0) d_M_isShaped_20 (by decide) ?_
      exact g_zret X KOk.p (by decide) d_M_isShaped_21 ⟨by rw [decide_eq_false (fun q => hd (by rw [q.2]))]; rfl, rfl⟩
    · have e2 : (M r).2.1 = y := (nI_eq (by omega) (by omega)).mp hd
      refine g_iconst X (v := 1) d_M_isShaped_16 (by decide) ?_
      refine g_goto X 21 d_M_isShaped_17 (by decide) ?_
      exact g_zret X KOk.p (by decide) d_M_isShaped_21 ⟨by rw [decide_eq_true ⟨e1, e2⟩]; rfl, rfl⟩
theorem clr_step (f : Nat → Bool) (p : Nat) : va_up (fun q => if q < p then false else f q) p false = fun q => if q < p + 1 then false else f q := by
  funext q
  unfold va_up
  by_cases h : q = p
  · subst h
    simp
  · by_cases h2 : q < p
    · have : q < p + 1 := by omega
      simp [h, h2, this]
    · have : ¬ q < p + 1 := by omega
      simp [h, h2, this]
set_option maxHeartbeats 4000000 in
set_option maxRecDepth 100000 in
theorem l_M_clear {κ : KX} {δ : EX} {ad : Nat → Nat} (X : XO κ R_M b_M_clear 4 none δ (RM 0) (Ar ad) []) (hinj : Inj ad) {M : DS} {r x y : Nat} {v : Nat → Int64} {f : Nat → Bool} (hr : r < 7) : ∀ n p, p + n = 64 → G κ 4 δ (Kn κ (Ar ad)) (Qe κ δ (Ar ad) (fun r' w => r' = .inr none ∧ w = dl δ ad (va_up M r (x, y, v, fun q => if q < 64 then false else f q)))) 0 0 (dl δ ad (va_up M r (x, y, v, fun q => if q < p then false else f q))) [(3, .int (nI p)), (0, .ref (mq ad r))] [] 12 := by
  intro n
  induction n with
  | zero =>
    intro p hp
    obtain rfl : p = 64 := by omega
    refine g_iload_n X 3 d_M_clear_12 rfl rfl ?_
    refine g_aload_n X 0 d_M_clear_13 rfl rfl ?_
    refine r_fils X kf_M_22 d_M_clear_14 (by omega) ?_
    refine r_flen X (by omega) d_M_clear_17 ?_
    refine g_icmp_ge X 34 d_M_clear_18 (by decide) (fun hc => ?_) (fun hc => ?_)
    · exact g_vret X KOk.n d_M_clear_34 ⟨rfl, rfl⟩
    · exact absurd (nI_le (Nat.le_refl 64) (by decide)) hc
  | succ n ih =>
    intro p hp
    refine g_iload_n X 3 d_M_clear_12 rfl rfl ?_
    refine g_aload_n X 0 d_M_clear_13 rfl rfl ?_
    refine r_fils X kf_M_22 d_M_clear_14 (by omega) ?_
    refine r_flen X (by omega) d_M_clear_17 ?_
    refine g_icmp_ge X 34 d_M_clear_18 (by decide) (fun hc => ?_) (fun hc => ?_)
    · exact absurd hc (nI_ge (by omega) (by decide))
    · clear hc
      refine g_aload_n X 0 d_M_clear_21 rfl rfl ?_
      refine r_fils X kf_M_22 d_M_clear_22 (by omega) ?_
      refine g_iload_n X 3 d_M_clear_25 rfl rfl ?_
      refine g_iconst X (v := 0) d_M_clear_26 (by decide) ?_
      refine r_zast X hinj false rfl (by omega) hr (by decide) d_M_clear_27 ?_
      refine g_ew (ws' := dl δ ad (va_up M r (x, y, v, fun q => if q < p + 1 then false else f q))) (by simp only [bx_uu, va_up_s, clr_step]) ?_
      refine g_iinc X d_M_clear_28 rfl (nI_1 _) (by decide) ?_
      refine g_goto X 12 d_M_clear_31 (by decide) ?_
      exact g_sb (ih (p + 1) (by omega)) ⟨rfl, rfl, trivial⟩
set_option maxHeartbeats 4000000 in
set_option maxRecDepth 100000 in
theorem c_M_clear {l : Launch} (htr : l.stackTraces = false) {δ : EX} {ad : Nat → Nat} {M : DS} (hinj : Inj ad) {r x y : Nat} (hr : r < 7) : CTN l y_M_clear cw_M_clear (RM 0) δ (Ar ad) (dl δ ad M) [.ref (mq ad r), .int (nI x), .int (nI y)] none (dl δ ad (va_up M r (mClear (M r) x y))) := by
  refine CT.ofN (lv := [(0, .ref (mq ad r)), (1, .int (nI x)), (2, .int (nI y))]) (Or.inl ⟨rfl, rfl⟩) (by decide) htr rfl (Nat.le_of_ble_eq_true rfl) (fun κ hl X => ?_)
  subst hl
  refine g_aload_n X 0 d_M_clear_0 rfl rfl ?_
  refine g_iload_n X 1 d_M_clear_1 rfl rfl ?_
  refine r_putr X hinj kf_M_9 d_M_clear_2 hr ?_
  refine g_aload_n X 0 d_M_clear_5 rfl rfl ?_
  refine g_iload_n X 2 d_M_clear_6 rfl rfl ?_
  refine r_putc X hinj kf_M_15 d_M_clear_7 hr ?_
  refine g_iconst X (v := nI 0) d_M_clear_10 (by decide) ?_
  refine g_istore_n X 3 d_M_clear_11 rfl (by decide) ?_
  refine g_ew (ws' := dl δ ad (va_up M r (x, y, (M r).2.2.1, fun q => if q < 0 then false else (M r).2.2.2 q))) (by simp [bx_uu, va_up_s]) ?_
  exact g_sb (l_M_clear X hinj hr 64 0 rfl) ⟨rfl, rfl, trivial⟩
set_option maxHeartbeats 4000000 in
set_option maxRecDepth 100000 in
theorem l_M_count {κ : KX} {δ : EX} {ad : Nat → Nat} (X : XO κ R_M b_M_count 3 (some .int) δ (RM 0) NoA []) {M : DS} {r : Nat} (hr : r < 7) : ∀ n p, p + n = 64 → G κ 3 δ (Kp κ) (Qe κ δ NoA (fun r' w => r' = .inr (some (.int (nI (cnt (M r).2.2.2 64)))) ∧ w = dl δ ad M)) 0 0 (dl δ ad M) [(2, .int (nI p)), (1, .int (nI (cnt (M r).2.2.2 p))), (0, .ref (mq ad r))] [] 4 := by
  intro n
  induction n with
  | zero =>
    intro p hp
    obtain rfl : p = 64 := by omega
    refine g_iload_n X 2 d_M_count_4 rfl rfl ?_
    refine g_aload_n X 0 d_M_count_5 rfl rfl ?_
    refine r_fils X kf_M_22 d_M_count_6 (by omega) ?_
    refine r_flen X (by omega) d_M_count_9 ?_
    refine g_icmp_ge X 31 d_M_count_10 (by decide) (fun hc => ?_) (fun hc => ?_)
    · refine g_iload_n X 1 d_M_count_31 rfl rfl ?_
      exact g_iret X KOk.p d_M_count_32 ⟨rfl, rfl⟩
    · exact absurd (nI_le (Nat.le_refl 64) (by decide)) hc
  | succ n ih =>
    intro p hp
    refine g_iload_n X 2 d_M_count_4 rfl rfl ?_
    refine g_aload_n X 0 d_M_count_5 rfl rfl ?_
    refine r_fils X kf_M_22 d_M_count_6 (by omega) ?_
    refine r_flen X (by omega) d_M_count_9 ?_
    refine g_icmp_ge X 31 d_M_count_10 (by decide) (fun hc => ?_) (fun hc => ?_)
    · exact absurd hc (nI_ge (by omega) (by decide))
    · clear hc
      refine g_aload_n X 0 d_M_count_13 rfl rfl ?_
      refine r_fils X kf_M_22 d_M_count_14 (by omega) ?_
      refine g_iload_n X 2 d_M_count_17 rfl rfl ?_
      refine r_zald X rfl (by omega) (by omega) d_M_count_18 ?_
      refine g_if_eq X 25 d_M_count_19 (by decide) (fun hc => ?_) (fun hc => ?_)
      · have e : cnt (M r).2.2.2 (p + 1) = cnt (M r).2.2.2 p := by
          have h := b2_0.mp hc
          simp only [mHas] at h
          simp [cnt, h]
        refine g_iinc X d_M_count_25 rfl (nI_1 _) (by decide) ?_
        refine g_goto X 4 d_M_count_28 (by decide) ?_
        exact g_sb (ih (p + 1) (by omega)) ⟨rfl, by rw [e]; rfl, rfl, trivial⟩
      · have e : cnt (M r).2.2.2 (p + 1) = cnt (M r).2.2.2 p + 1 := by
          have h : mHas (M r) p = true := by
            cases h : mHas (M r) p
            · exact absurd (b2_0.mpr h) hc
            · rfl
          simp only [mHas] at h
          simp [cnt, h]
        refine g_iinc X d_M_count_22 rfl (nI_1 _) (by decide) ?_
        refine g_iinc X d_M_count_25 rfl (nI_1 _) (by decide) ?_
        refine g_goto X 4 d_M_count_28 (by decide) ?_
        exact g_sb (ih (p + 1) (by omega)) ⟨rfl, by rw [e]; rfl, rfl, trivial⟩
set_option maxHeartbeats 4000000 in
set_option maxRecDepth 100000 in
theorem c_M_count {l : Launch} (htr : l.stackTraces = false) {δ : EX} {ad : Nat → Nat} {M : DS} {r : Nat} (hr : r < 7) : CTP l y_M_count cw_M_count (RM 0) δ (dl δ ad M) [.ref (mq ad r)] (.inr (some (.int (nI (cnt (M r).2.2.2 64))))) := by
  refine CT.ofP (lv := [(0, .ref (mq ad r))]) (Or.inl ⟨rfl, rfl⟩) (by decide) htr rfl (Nat.le_of_ble_eq_true rfl) (fun κ hl X => ?_)
  subst hl
  refine g_iconst X (v := nI 0) d_M_count_0 (by decide) ?_
  refine g_istore_n X 1 d_M_count_1 rfl (by decide) ?_
  refine g_iconst X (v := nI 0) d_M_count_2 (by decide) ?_
  refine g_istore_n X 2 d_M_count_3 rfl (by decide) ?_
  exact g_sb (l_M_count X hr 64 0 rfl) ⟨rfl, rfl, rfl, trivial⟩
end MB
end
section
section RA
set_option maxHeartbeats 4000000 in
set_option maxRecDepth 100000 in
theorem c_D_reqReg {l : Launch} (htr : l.stackTraces = false) {δ : EX} {ad : Nat → Nat} {M : DS} {r : Nat} (hr : r < 6) : CTP l y_D_requireRegister cw_D_requireRegister (RM 0) δ (dl δ ad M) [.int (nI r)] (.inr none) := by
  refine CT.ofP (lv := [(0, .int (nI r))]) (Or.inl ⟨rfl, rfl⟩) (by decide) htr rfl (Nat.le_of_ble_eq_true rfl) (fun κ hl X => ?_)
  subst hl
  refine g_iload_n X 0 d_D_requireRegister_0 rfl rfl ?_
  refine g_if_lt X 10 d_D_requireRegister_1 (by decide) (fun hc => ?_) (fun hc => ?_)
  · exact absurd hc (nI_pos (by omega))
  · clear hc
    refine g_iload_n X 0 d_D_requireRegister_4 rfl rfl ?_
    refine g_bipush X (v := nI 6) d_D_requireRegister_5 (by decide) ?_
    refine g_icmp_lt X 20 d_D_requireRegister_7 (by decide) (fun hc => ?_) (fun hc => ?_)
    · exact g_vret X KOk.p d_D_requireRegister_20 ⟨rfl, rfl⟩
    · exact absurd (nI_lt hr (by decide)) hc
set_option maxHeartbeats 4000000 in
set_option maxRecDepth 100000 in
theorem c_D_reqReg_x {l : Launch} (htr : l.stackTraces = false) {δ : EX} {ad : Nat → Nat} {M : DS} {x : Int32} (hx : x < 0 ∨ nI 6 ≤ x) : CTP l y_D_requireRegister cw_D_requireRegister (RM 0) δ (dl δ ad M) [.int x] (.inl 1) := by
  refine CT.ofP (lv := [(0, .int x)]) (Or.inl ⟨rfl, rfl⟩) (by decide) htr rfl (Nat.le_of_ble_eq_true rfl) (fun κ hl X => ?_)
  subst hl
  refine g_iload_n X 0 d_D_requireRegister_0 rfl rfl ?_
  refine g_if_lt X 10 d_D_requireRegister_1 (by decide) (fun hc => ?_) (fun hc => ?_)
  · exact x_1 X kr_D_191 d_D_requireRegister_10 d_D_requireRegister_13 d_D_requireRegister_14 d_D_requireRegister_16 d_D_requireRegister_19 ⟨Nat.le_of_ble_eq_true rfl, Nat.le_of_ble_eq_true rfl, Nat.le_of_ble_eq_true rfl, Nat.le_of_ble_eq_true rfl⟩ ⟨rfl, rfl⟩
  · refine g_iload_n X 0 d_D_requireRegister_4 rfl rfl ?_
    refine g_bipush X (v := nI 6) d_D_requireRegister_5 (by decide) ?_
    refine g_icmp_lt X 20 d_D_requireRegister_7 (by decide) (fun hd => ?_) (fun hd => ?_)
    · rcases hx with h | h
      · exact absurd h hc
      · exact absurd hd (Int32.not_lt.mpr h)
    · exact x_1 X kr_D_191 d_D_requireRegister_10 d_D_requireRegister_13 d_D_requireRegister_14 d_D_requireRegister_16 d_D_requireRegister_19 ⟨Nat.le_of_ble_eq_true rfl, Nat.le_of_ble_eq_true rfl, Nat.le_of_ble_eq_true rfl, Nat.le_of_ble_eq_true rfl⟩ ⟨rfl, rfl⟩
set_option maxHeartbeats 4000000 in
set_option maxRecDepth 100000 in
theorem c_D_reqSem {l : Launch} (htr : l.stackTraces = false) {δ : EX} {ad : Nat → Nat} {M : DS} {k : Nat} (hk : k < 4) : CTP l y_D_requireSemiring cw_D_requireSemiring (RM 0) δ (dl δ ad M) [.int (nI k)] (.inr none) := by
  refine CT.ofP (lv := [(0, .int (nI k))]) (Or.inl ⟨rfl, rfl⟩) (by decide) htr rfl (Nat.le_of_ble_eq_true rfl) (fun κ hl X => ?_)
  subst hl
  refine g_iload_n X 0 d_D_requireSemiring_0 rfl rfl ?_
  refine g_if_lt X 9 d_D_requireSemiring_1 (by decide) (fun hc => ?_) (fun hc => ?_)
  · exact absurd hc (nI_pos (by omega))
  · clear hc
    refine g_iload_n X 0 d_D_requireSemiring_4 rfl rfl ?_
    refine g_iconst X (v := nI 3) d_D_requireSemiring_5 (by decide) ?_
    refine g_icmp_le X 19 d_D_requireSemiring_6 (by decide) (fun hc => ?_) (fun hc => ?_)
    · exact g_vret X KOk.p d_D_requireSemiring_19 ⟨rfl, rfl⟩
    · exact absurd (nI_le (by omega) (by decide)) hc
set_option maxHeartbeats 4000000 in
set_option maxRecDepth 100000 in
theorem c_D_reqSem_x {l : Launch} (htr : l.stackTraces = false) {δ : EX} {ad : Nat → Nat} {M : DS} {x : Int32} (hx : x < 0 ∨ nI 3 < x) : CTP l y_D_requireSemiring cw_D_requireSemiring (RM 0) δ (dl δ ad M) [.int x] (.inl 1) := by
  refine CT.ofP (lv := [(0, .int x)]) (Or.inl ⟨rfl, rfl⟩) (by decide) htr rfl (Nat.le_of_ble_eq_true rfl) (fun κ hl X => ?_)
  subst hl
  refine g_iload_n X 0 d_D_requireSemiring_0 rfl rfl ?_
  refine g_if_lt X 9 d_D_requireSemiring_1 (by decide) (fun hc => ?_) (fun hc => ?_)
  · exact x_1 X kr_D_194 d_D_requireSemiring_9 d_D_requireSemiring_12 d_D_requireSemiring_13 d_D_requireSemiring_15 d_D_requireSemiring_18 ⟨Nat.le_of_ble_eq_true rfl, Nat.le_of_ble_eq_true rfl, Nat.le_of_ble_eq_true rfl, Nat.le_of_ble_eq_true rfl⟩ ⟨rfl, rfl⟩
  · refine g_iload_n X 0 d_D_requireSemiring_4 rfl rfl ?_
    refine g_iconst X (v := nI 3) d_D_requireSemiring_5 (by decide) ?_
    refine g_icmp_le X 19 d_D_requireSemiring_6 (by decide) (fun hd => ?_) (fun hd => ?_)
    · rcases hx with h | h
      · exact absurd h hc
      · exact absurd h (Int32.not_lt.mpr hd)
    · exact x_1 X kr_D_194 d_D_requireSemiring_9 d_D_requireSemiring_12 d_D_requireSemiring_13 d_D_requireSemiring_15 d_D_requireSemiring_18 ⟨Nat.le_of_ble_eq_true rfl, Nat.le_of_ble_eq_true rfl, Nat.le_of_ble_eq_true rfl, Nat.le_of_ble_eq_true rfl⟩ ⟨rfl, rfl⟩
set_option maxHeartbeats 4000000 in
set_option maxRecDepth 100000 in
theorem c_D_reqHow {l : Launch} (htr : l.stackTraces = false) {δ : EX} {ad : Nat → Nat} {M : DS} {h n : Nat} (hh : h ≤ n) (hn : n < 8) : CTP l y_D_requireHow cw_D_requireHow (RM 0) δ (dl δ ad M) [.int (nI h), .int (nI n)] (.inr none) := by
  refine CT.ofP (lv := [(0, .int (nI h)), (1, .int (nI n))]) (Or.inl ⟨rfl, rfl⟩) (by decide) htr rfl (Nat.le_of_ble_eq_true rfl) (fun κ hl X => ?_)
  subst hl
  refine g_iload_n X 0 d_D_requireHow_0 rfl rfl ?_
  refine g_if_lt X 9 d_D_requireHow_1 (by decide) (fun hc => ?_) (fun hc => ?_)
  · exact absurd hc (nI_pos (by omega))
  · clear hc
    refine g_iload_n X 0 d_D_requireHow_4 rfl rfl ?_
    refine g_iload_n X 1 d_D_requireHow_5 rfl rfl ?_
    refine g_icmp_le X 19 d_D_requireHow_6 (by decide) (fun hc => ?_) (fun hc => ?_)
    · exact g_vret X KOk.p d_D_requireHow_19 ⟨rfl, rfl⟩
    · exact absurd (nI_le hh (by omega)) hc
set_option maxHeartbeats 4000000 in
set_option maxRecDepth 100000 in
theorem c_D_reqHow_x {l : Launch} (htr : l.stackTraces = false) {δ : EX} {ad : Nat → Nat} {M : DS} {x : Int32} {n : Nat} (hx : x < 0 ∨ nI n < x) : CTP l y_D_requireHow cw_D_requireHow (RM 0) δ (dl δ ad M) [.int x, .int (nI n)] (.inl 1) := by
  refine CT.ofP (lv := [(0, .int x), (1, .int (nI n))]) (Or.inl ⟨rfl, rfl⟩) (by decide) htr rfl (Nat.le_of_ble_eq_true rfl) (fun κ hl X => ?_)
  subst hl
  refine g_iload_n X 0 d_D_requireHow_0 rfl rfl ?_
  refine g_if_lt X 9 d_D_requireHow_1 (by decide) (fun hc => ?_) (fun hc => ?_)
  · exact x_1 X kr_D_196 d_D_requireHow_9 d_D_requireHow_12 d_D_requireHow_13 d_D_requireHow_15 d_D_requireHow_18 ⟨Nat.le_of_ble_eq_true rfl, Nat.le_of_ble_eq_true rfl, Nat.le_of_ble_eq_true rfl, Nat.le_of_ble_eq_true rfl⟩ ⟨rfl, rfl⟩
  · refine g_iload_n X 0 d_D_requireHow_4 rfl rfl ?_
    refine g_iload_n X 1 d_D_requireHow_5 rfl rfl ?_
    refine g_icmp_le X 19 d_D_requireHow_6 (by decide) (fun hd => ?_) (fun hd => ?_)
    · rcases hx with h | h
      · exact absurd h hc
      · exact absurd h (Int32.not_lt.mpr hd)
    · exact x_1 X kr_D_196 d_D_requireHow_9 d_D_requireHow_12 d_D_requireHow_13 d_D_requireHow_15 d_D_requireHow_18 ⟨Nat.le_of_ble_eq_true rfl, Nat.le_of_ble_eq_true rfl, Nat.le_of_ble_eq_true rfl, Nat.le_of_ble_eq_true rfl⟩ ⟨rfl, rfl⟩
set_option maxHeartbeats 4000000 in
set_option maxRecDepth 100000 in
theorem c_D_reqSide {l : Launch} (htr : l.stackTraces = false) {δ : EX} {ad : Nat → Nat} {M : DS} {m : Nat} (h1 : 1 ≤ m) (h8 : m ≤ 8) : CTP l y_D_requireSide cw_D_requireSide (RM 0) δ (dl δ ad M) [.int (nI m)] (.inr none) := by
  refine CT.ofP (lv := [(0, .int (nI m))]) (Or.inl ⟨rfl, rfl⟩) (by decide) htr rfl (Nat.le_of_ble_eq_true rfl) (fun κ hl X => ?_)
  subst hl
  refine g_iload_n X 0 d_D_requireSide_0 rfl rfl ?_
  refine g_iconst X (v := nI 1) d_D_requireSide_1 (by decide) ?_
  refine g_icmp_lt X 11 d_D_requireSide_2 (by decide) (fun hc => ?_) (fun hc => ?_)
  · exact absurd hc (nI_nlt h1 (by omega))
  · clear hc
    refine g_iload_n X 0 d_D_requireSide_5 rfl rfl ?_
    refine g_bipush X (v := nI 8) d_D_requireSide_6 (by decide) ?_
    refine g_icmp_le X 21 d_D_requireSide_8 (by decide) (fun hc => ?_) (fun hc => ?_)
    · exact g_vret X KOk.p d_D_requireSide_21 ⟨rfl, rfl⟩
    · exact absurd (nI_le h8 (by decide)) hc
set_option maxHeartbeats 4000000 in
set_option maxRecDepth 100000 in
theorem c_D_reqSide_x {l : Launch} (htr : l.stackTraces = false) {δ : EX} {ad : Nat → Nat} {M : DS} {x : Int32} (hx : x < nI 1 ∨ nI 8 < x) : CTP l y_D_requireSide cw_D_requireSide (RM 0) δ (dl δ ad M) [.int x] (.inl 1) := by
  refine CT.ofP (lv := [(0, .int x)]) (Or.inl ⟨rfl, rfl⟩) (by decide) htr rfl (Nat.le_of_ble_eq_true rfl) (fun κ hl X => ?_)
  subst hl
  refine g_iload_n X 0 d_D_requireSide_0 rfl rfl ?_
  refine g_iconst X (v := nI 1) d_D_requireSide_1 (by decide) ?_
  refine g_icmp_lt X 11 d_D_requireSide_2 (by decide) (fun hc => ?_) (fun hc => ?_)
  · exact x_1 X kr_D_198 d_D_requireSide_11 d_D_requireSide_14 d_D_requireSide_15 d_D_requireSide_17 d_D_requireSide_20 ⟨Nat.le_of_ble_eq_true rfl, Nat.le_of_ble_eq_true rfl, Nat.le_of_ble_eq_true rfl, Nat.le_of_ble_eq_true rfl⟩ ⟨rfl, rfl⟩
  · refine g_iload_n X 0 d_D_requireSide_5 rfl rfl ?_
    refine g_bipush X (v := nI 8) d_D_requireSide_6 (by decide) ?_
    refine g_icmp_le X 21 d_D_requireSide_8 (by decide) (fun hd => ?_) (fun hd => ?_)
    · rcases hx with h | h
      · exact absurd h hc
      · exact absurd h (Int32.not_lt.mpr hd)
    · exact x_1 X kr_D_198 d_D_requireSide_11 d_D_requireSide_14 d_D_requireSide_15 d_D_requireSide_17 d_D_requireSide_20 ⟨Nat.le_of_ble_eq_true rfl, Nat.le_of_ble_eq_true rfl, Nat.le_of_ble_eq_true rfl, Nat.le_of_ble_eq_true rfl⟩ ⟨rfl, rfl⟩
set_option maxHeartbeats 4000000 in
set_option maxRecDepth 100000 in
theorem c_D_isValue {l : Launch} (htr : l.stackTraces = false) {δ : EX} {ad : Nat → Nat} {M : DS} {v : Int64} : CTP l y_D_isValue cw_D_isValue (RM 0) δ (dl δ ad M) [.long v] (.inr (some (.int (b2 (inR v))))) := by
  refine CT.ofP (lv := [(0, .long v)]) (Or.inl ⟨rfl, rfl⟩) (by decide) htr rfl (Nat.le_of_ble_eq_true rfl) (fun κ hl X => ?_)
  subst hl
  refine g_lload_n X 0 d_D_isValue_0 rfl rfl ?_
  refine g_ldc2 X d_D_isValue_1 kq_D_187 ?_
  refine g_lcmp X d_D_isValue_4 ?_
  refine g_if_lt X 20 d_D_isValue_5 (by decide) (fun hc => ?_) (fun hc => ?_)
  · have h := (lg_cmp_lt _ _).mp hc
    refine g_iconst X (v := 0) d_D_isValue_20 (by decide) ?_
    exact g_zret X KOk.p (by decide) d_D_isValue_21 ⟨by rw [show inR v = false from by simp [inR]; exact fun q => absurd h (Int64.not_lt.mpr q)]; rfl, rfl⟩
  · have h : -1000000000000 ≤ v := Int64.not_lt.mp (fun q => hc ((lg_cmp_lt _ _).mpr q))
    refine g_lload_n X 0 d_D_isValue_8 rfl rfl ?_
    refine g_ldc2 X d_D_isValue_9 kq_D_179 ?_
    refine g_lcmp X d_D_isValue_12 ?_
    refine g_if_gt X 20 d_D_isValue_13 (by decide) (fun hd => ?_) (fun hd => ?_)
    · have h2 := (lg_cmp_gt _ _).mp hd
      refine g_iconst X (v := 0) d_D_isValue_20 (by decide) ?_
      exact g_zret X KOk.p (by decide) d_D_isValue_21 ⟨by rw [show inR v = false from by simp [inR]; exact fun _ => h2]; rfl, rfl⟩
    · have h2 : v ≤ 1000000000000 := Int64.not_lt.mp (fun q => hd ((lg_cmp_gt _ _).mpr q))
      refine g_iconst X (v := 1) d_D_isValue_16 (by decide) ?_
      refine g_goto X 21 d_D_isValue_17 (by decide) ?_
      exact g_zret X KOk.p (by decide) d_D_isValue_21 ⟨by rw [show inR v = true from by simp [inR, h, h2]]; rfl, rfl⟩
set_option maxHeartbeats 4000000 in
set_option maxRecDepth 100000 in
theorem c_D_reqEntry {l : Launch} (htr : l.stackTraces = false) {δ : EX} {ad : Nat → Nat} {M : DS} {b : Bool} (hb : b = true) : CTP l y_D_requireEntry cw_D_requireEntry (RM 0) δ (dl δ ad M) [.int (b2 b)] (.inr none) := by
  refine CT.ofP (lv := [(0, .int (b2 b))]) (Or.inl ⟨rfl, rfl⟩) (by decide) htr rfl (Nat.le_of_ble_eq_true rfl) (fun κ hl X => ?_)
  subst hl
  refine g_iload_n X 0 d_D_requireEntry_0 rfl rfl ?_
  refine g_if_ne X 14 d_D_requireEntry_1 (by decide) (fun hc => ?_) (fun hc => ?_)
  · exact g_vret X KOk.p d_D_requireEntry_14 ⟨rfl, rfl⟩
  · subst hb
    exact absurd hc (by decide)
set_option maxHeartbeats 4000000 in
set_option maxRecDepth 100000 in
theorem c_D_reqEntry_x {l : Launch} (htr : l.stackTraces = false) {δ : EX} {ad : Nat → Nat} {M : DS} {b : Bool} (hb : b = false) : CTP l y_D_requireEntry cw_D_requireEntry (RM 0) δ (dl δ ad M) [.int (b2 b)] (.inl 3) := by
  refine CT.ofP (lv := [(0, .int (b2 b))]) (Or.inl ⟨rfl, rfl⟩) (by decide) htr rfl (Nat.le_of_ble_eq_true rfl) (fun κ hl X => ?_)
  subst hl
  refine g_iload_n X 0 d_D_requireEntry_0 rfl rfl ?_
  refine g_if_ne X 14 d_D_requireEntry_1 (by decide) (fun hc => ?_) (fun hc => ?_)
  · subst hb
    exact absurd (by decide) hc
  · exact x_3 X kr_D_206 d_D_requireEntry_4 d_D_requireEntry_7 d_D_requireEntry_8 d_D_requireEntry_10 d_D_requireEntry_13 ⟨Nat.le_of_ble_eq_true rfl, Nat.le_of_ble_eq_true rfl, Nat.le_of_ble_eq_true rfl, Nat.le_of_ble_eq_true rfl⟩ ⟨rfl, rfl⟩
set_option maxHeartbeats 4000000 in
set_option maxRecDepth 100000 in
theorem c_D_reqFit {l : Launch} (htr : l.stackTraces = false) {δ : EX} {ad : Nat → Nat} {M : DS} {b : Bool} (hb : b = true) : CTP l y_D_requireFit cw_D_requireFit (RM 0) δ (dl δ ad M) [.int (b2 b)] (.inr none) := by
  refine CT.ofP (lv := [(0, .int (b2 b))]) (Or.inl ⟨rfl, rfl⟩) (by decide) htr rfl (Nat.le_of_ble_eq_true rfl) (fun κ hl X => ?_)
  subst hl
  refine g_iload_n X 0 d_D_requireFit_0 rfl rfl ?_
  refine g_if_ne X 14 d_D_requireFit_1 (by decide) (fun hc => ?_) (fun hc => ?_)
  · exact g_vret X KOk.p d_D_requireFit_14 ⟨rfl, rfl⟩
  · subst hb
    exact absurd hc (by decide)
set_option maxHeartbeats 4000000 in
set_option maxRecDepth 100000 in
theorem c_D_reqFit_x {l : Launch} (htr : l.stackTraces = false) {δ : EX} {ad : Nat → Nat} {M : DS} {b : Bool} (hb : b = false) : CTP l y_D_requireFit cw_D_requireFit (RM 0) δ (dl δ ad M) [.int (b2 b)] (.inl 2) := by
  refine CT.ofP (lv := [(0, .int (b2 b))]) (Or.inl ⟨rfl, rfl⟩) (by decide) htr rfl (Nat.le_of_ble_eq_true rfl) (fun κ hl X => ?_)
  subst hl
  refine g_iload_n X 0 d_D_requireFit_0 rfl rfl ?_
  refine g_if_ne X 14 d_D_requireFit_1 (by decide) (fun hc => ?_) (fun hc => ?_)
  · subst hb
    exact absurd (by decide) hc
  · exact x_2 X kr_D_211 d_D_requireFit_4 d_D_requireFit_7 d_D_requireFit_8 d_D_requireFit_10 d_D_requireFit_13 ⟨Nat.le_of_ble_eq_true rfl, Nat.le_of_ble_eq_true rfl, Nat.le_of_ble_eq_true rfl, Nat.le_of_ble_eq_true rfl⟩ ⟨rfl, rfl⟩
set_option maxHeartbeats 4000000 in
set_option maxRecDepth 100000 in
theorem c_D_reqVal {l : Launch} (htr : l.stackTraces = false) {δ : EX} {ad : Nat → Nat} {M : DS} {v : Int64} (hv : inR v = true) : CTP l y_D_requireValue cw_D_requireValue (RM 1) δ (dl δ ad M) [.long v] (.inr none) := by
  refine CT.ofP (lv := [(0, .long v)]) (Or.inl ⟨rfl, rfl⟩) (by decide) htr rfl (Nat.le_of_ble_eq_true rfl) (fun κ hl X => ?_)
  subst hl
  refine g_lload_n X 0 d_D_requireValue_0 rfl rfl ?_
  refine g_SP X KOk.p s_D_164 (c_D_isValue htr) d_D_requireValue_1 rfl ⟨Nat.le_of_ble_eq_true rfl, Nat.le_of_ble_eq_true rfl, Nat.le_of_ble_eq_true rfl, Nat.le_of_ble_eq_true rfl⟩ ?_
  refine g_if_ne X 17 d_D_requireValue_4 (by decide) (fun hc => ?_) (fun hc => ?_)
  · exact g_vret X KOk.p d_D_requireValue_17 ⟨rfl, rfl⟩
  · rw [hv] at hc
    exact absurd hc (by decide)
set_option maxHeartbeats 4000000 in
set_option maxRecDepth 100000 in
theorem c_D_reqVal_x {l : Launch} (htr : l.stackTraces = false) {δ : EX} {ad : Nat → Nat} {M : DS} {v : Int64} (hv : inR v = false) : CTP l y_D_requireValue cw_D_requireValue (RM 1) δ (dl δ ad M) [.long v] (.inl 1) := by
  refine CT.ofP (lv := [(0, .long v)]) (Or.inl ⟨rfl, rfl⟩) (by decide) htr rfl (Nat.le_of_ble_eq_true rfl) (fun κ hl X => ?_)
  subst hl
  refine g_lload_n X 0 d_D_requireValue_0 rfl rfl ?_
  refine g_SP X KOk.p s_D_164 (c_D_isValue htr) d_D_requireValue_1 rfl ⟨Nat.le_of_ble_eq_true rfl, Nat.le_of_ble_eq_true rfl, Nat.le_of_ble_eq_true rfl, Nat.le_of_ble_eq_true rfl⟩ ?_
  refine g_if_ne X 17 d_D_requireValue_4 (by decide) (fun hc => ?_) (fun hc => ?_)
  · rw [hv] at hc
    exact absurd (by decide) hc
  · exact x_1 X kr_D_202 d_D_requireValue_7 d_D_requireValue_10 d_D_requireValue_11 d_D_requireValue_13 d_D_requireValue_16 ⟨Nat.le_of_ble_eq_true rfl, Nat.le_of_ble_eq_true rfl, Nat.le_of_ble_eq_true rfl, Nat.le_of_ble_eq_true rfl⟩ ⟨rfl, rfl⟩
/-- a sum or a product, or the exception for one out of range -/
def oL (o : Option Int64) : OC := match o with
  | some v => .inr (some (.long v))
  | none => .inl 4
set_option maxHeartbeats 4000000 in
set_option maxRecDepth 100000 in
theorem c_D_plus {l : Launch} (htr : l.stackTraces = false) {δ : EX} {ad : Nat → Nat} {M : DS} {x y : Int64} : CTP l y_D_plus cw_D_plus (RM 1) δ (dl δ ad M) [.long x, .long y] (oL (plS x y)) := by
  refine CT.ofP (lv := [(0, .long x), (2, .long y)]) (Or.inl ⟨rfl, rfl⟩) (by decide) htr rfl (Nat.le_of_ble_eq_true rfl) (fun κ hl X => ?_)
  subst hl
  refine g_lload_n X 0 d_D_plus_0 rfl rfl ?_
  refine g_lload_n X 2 d_D_plus_1 rfl rfl ?_
  refine g_ladd X d_D_plus_2 ?_
  refine g_lstore X d_D_plus_3 (by decide) ?_
  refine g_lload X d_D_plus_5 rfl ?_
  refine g_SP X KOk.p s_D_164 (c_D_isValue htr) d_D_plus_7 rfl ⟨Nat.le_of_ble_eq_true rfl, Nat.le_of_ble_eq_true rfl, Nat.le_of_ble_eq_true rfl, Nat.le_of_ble_eq_true rfl⟩ ?_
  refine g_if_ne X 23 d_D_plus_10 (by decide) (fun hc => ?_) (fun hc => ?_)
  · have h : inR (x + y) = true := by
      cases h : inR (x + y)
      · exact absurd (b2_0.mpr h) hc
      · rfl
    refine g_lload X d_D_plus_23 rfl ?_
    exact g_lret X KOk.p d_D_plus_25 ⟨by simp [plS, h, oL], rfl⟩
  · have h : inR (x + y) = false := b2_0.mp hc
    exact x_4 X kr_D_170 d_D_plus_13 d_D_plus_16 d_D_plus_17 d_D_plus_19 d_D_plus_22 ⟨Nat.le_of_ble_eq_true rfl, Nat.le_of_ble_eq_true rfl, Nat.le_of_ble_eq_true rfl, Nat.le_of_ble_eq_true rfl⟩ ⟨by simp [plS, h, oL], rfl⟩
end RA
end
section
/-! Math of longs, switches -/
section GM
variable {κ : KX} {own : String} {cc : ByteArray} {nL : Nat} {rt : Option FieldType} {δ : EX} {rm : Room} {A0 : Nat → Prop} {hh : List (Nat × Nat × Nat × Nat)} {K : Heap → List Loc → Prop} {Q : State → Prop} {cs sl : Nat} {ws : va_W} {lv : List (Nat × Value)} {st : List Value} {pc idx : Nat}
set_option maxRecDepth 100000 in
theorem kc_abs : Cond.code Lib.MathLoose.abs_long.x Lib.MathLoose.abs_long.code 2 (some .long) ∈ gl := gl_of (List.mem_append_right _ (List.mem_append_right _ (List.mem_append_left _ (List.mem_of_getElem? (i := 42) rfl)))) rfl
set_option maxRecDepth 100000 in
theorem kc_min : Cond.code Lib.MathLoose.min_long.x Lib.MathLoose.min_long.code 4 (some .long) ∈ gl := gl_of (List.mem_append_right _ (List.mem_append_right _ (List.mem_append_left _ (List.mem_of_getElem? (i := 65) rfl)))) rfl
set_option maxRecDepth 100000 in
theorem kc_max : Cond.code Lib.MathLoose.max_long.x Lib.MathLoose.max_long.code 4 (some .long) ∈ gl := gl_of (List.mem_append_right _ (List.mem_append_right _ (List.mem_append_left _ (List.mem_of_getElem? (i := 74) rfl)))) rfl
theorem g_labs (X : XO κ own cc nL rt δ rm A0 hh) (hl : Cond.methodLink own idx ⟨"java/lang/Math", "abs", "(J)J"⟩ ∈ gl) {x : Int64} (hd : decode cc pc = .ok (.invokestatic idx, 3)) (hrm : 1 ≤ rm.frames ∧ (st.map fun v => v.category).sum + 13 ≤ rm.locals ∧ cs ≤ rm.cells ∧ sl ≤ rm.slots) (n : G κ nL δ K Q cs sl ws lv (.long (abL x) :: st) (pc + 3)) : G κ nL δ K Q cs sl ws lv (.long x :: st) pc :=
  fun H locs ls h hP hK => va_mabs_long X.1 X.2.1 (by rw [X.ml]; exact h.1.symm) X.ow (X.wd hl) (X.wd kst_java_lang_Math_abs) (X.wd ki_Math) (X.wd kc_abs) (by rw [X.room]; exact hrm.1) (by rw [X.room]; exact hrm.2.1) (by rw [X.room]; exact hrm.2.2.1) (by rw [X.room]; exact hrm.2.2.2) hd (n H locs ls h hP hK)
theorem g_lmin (X : XO κ own cc nL rt δ rm A0 hh) (hl : Cond.methodLink own idx ⟨"java/lang/Math", "min", "(JJ)J"⟩ ∈ gl) {x y : Int64} (hd : decode cc pc = .ok (.invokestatic idx, 3)) (hrm : 1 ≤ rm.frames ∧ (st.map fun v => v.category).sum + 15 ≤ rm.locals ∧ cs ≤ rm.cells ∧ sl ≤ rm.slots) (n : G κ nL δ K Q cs sl ws lv (.long (miL x y) :: st) (pc + 3)) : G κ nL δ K Q cs sl ws lv (.long y :: .long x :: st) pc :=
  fun H locs ls h hP hK => va_mmin_long X.1 X.2.1 (by rw [X.ml]; exact h.1.symm) X.ow (X.wd hl) (X.wd kst_java_lang_Math_min) (X.wd ki_Math) (X.wd kc_min) (by rw [X.room]; exact hrm.1) (by rw [X.room]; exact hrm.2.1) (by rw [X.room]; exact hrm.2.2.1) (by rw [X.room]; exact hrm.2.2.2) hd (n H locs ls h hP hK)
theorem g_lmax (X : XO κ own cc nL rt δ rm A0 hh) (hl : Cond.methodLink own idx ⟨"java/lang/Math", "max", "(JJ)J"⟩ ∈ gl) {x y : Int64} (hd : decode cc pc = .ok (.invokestatic idx, 3)) (hrm : 1 ≤ rm.frames ∧ (st.map fun v => v.category).sum + 15 ≤ rm.locals ∧ cs ≤ rm.cells ∧ sl ≤ rm.slots) (n : G κ nL δ K Q cs sl ws lv (.long (maL x y) :: st) (pc + 3)) : G κ nL δ K Q cs sl ws lv (.long y :: .long x :: st) pc :=
  fun H locs ls h hP hK => va_mmax_long X.1 X.2.1 (by rw [X.ml]; exact h.1.symm) X.ow (X.wd hl) (X.wd kst_java_lang_Math_max) (X.wd ki_Math) (X.wd kc_max) (by rw [X.room]; exact hrm.1) (by rw [X.room]; exact hrm.2.1) (by rw [X.room]; exact hrm.2.2.1) (by rw [X.room]; exact hrm.2.2.2) hd (n H locs ls h hP hK)
theorem g_tin (X : XO κ own cc nL rt δ rm A0 hh) {dflt lo hi : Int} {offs : Array Int} {len : Nat} {x : Int32} {off : Int} (tgt : Nat) (hd : decode cc pc = .ok (.tableswitch dflt lo hi offs, len)) (h1 : ¬ x.toInt < lo) (h2 : ¬ hi < x.toInt) (ho : offs[(x.toInt - lo).toNat]? = some off) (ht : (pc : Int) + off = (tgt : Int)) (n : G κ nL δ K Q cs sl ws lv st tgt) : G κ nL δ K Q cs sl ws lv (.int x :: st) pc :=
  fun H locs ls h hP hK => lv_tableIn X.1 X.2.1 hd h1 h2 ho ht (n H locs ls h hP hK)
theorem g_tout (X : XO κ own cc nL rt δ rm A0 hh) {dflt lo hi : Int} {offs : Array Int} {len : Nat} {x : Int32} (tgt : Nat) (hd : decode cc pc = .ok (.tableswitch dflt lo hi offs, len)) (h : x.toInt < lo ∨ hi < x.toInt) (ht : (pc : Int) + dflt = (tgt : Int)) (n : G κ nL δ K Q cs sl ws lv st tgt) : G κ nL δ K Q cs sl ws lv (.int x :: st) pc :=
  fun H locs ls hl hP hK => lv_tableOut X.1 X.2.1 hd h ht (n H locs ls hl hP hK)
/-- numbers out of range, or in it -/
def bR (x : Int32) : Prop := x < 0 ∨ nI 6 ≤ x
def bH (n : Nat) (x : Int32) : Prop := x < 0 ∨ nI n < x
def bD (x : Int32) : Prop := x < nI 1 ∨ nI 8 < x
theorem bR_or (x : Int32) : bR x ∨ ∃ r, r < 6 ∧ x = nI r := by
  rcases pk_ix x (n := 6) (by decide) with h | h | h
  · exact Or.inl (Or.inl h)
  · exact Or.inl (Or.inr h)
  · exact Or.inr h
theorem bR_no {r : Nat} (h : r < 6) : ¬ bR (nI r) := by
  rintro (q | q)
  · exact nI_pos (by omega) q
  · exact nI_ge h (by decide) q
theorem bH_or {n : Nat} (hn : n < 100) (x : Int32) : bH n x ∨ ∃ h, h ≤ n ∧ x = nI h := by
  rcases pk_ix x (n := n + 1) (by omega) with h | h | ⟨j, h1, h2⟩
  · exact Or.inl (Or.inl h)
  · refine Or.inl (Or.inr ?_)
    rw [Int32.lt_iff_toInt_lt, nI_toInt (by omega)]
    rw [Int32.le_iff_toInt_le, nI_toInt (by omega)] at h
    omega
  · exact Or.inr ⟨j, by omega, h2⟩
theorem bH_no {n h : Nat} (hn : n < 100) (hh : h ≤ n) : ¬ bH n (nI h) := by
  rintro (q | q)
  · exact nI_pos (by omega) q
  · exact nI_nlt hh (by omega) q
theorem bD_or (x : Int32) : bD x ∨ ∃ m, 1 ≤ m ∧ m ≤ 8 ∧ x = nI m := by
  rcases bH_or (n := 8) (by decide) x with (h | h) | ⟨m, h1, h2⟩
  · refine Or.inl (Or.inl ?_)
    rw [Int32.lt_iff_toInt_lt, nI_toInt (by omega)]
    rw [Int32.lt_iff_toInt_lt, Int32.toInt_zero] at h
    omega
  · exact Or.inl (Or.inr h)
  · by_cases h0 : m = 0
    · subst h0
      exact Or.inl (Or.inl (by rw [h2]; decide))
    · exact Or.inr ⟨m, by omega, h1, h2⟩
theorem bD_no {m : Nat} (h1 : 1 ≤ m) (h2 : m ≤ 8) : ¬ bD (nI m) := by
  rintro (q | q)
  · exact nI_nlt h1 (by omega) q
  · exact nI_nlt h2 (by omega) q
end GM
end
section
section SE
theorem abL_0 {x : Int64} (h : ¬ x = 0) : ¬ abL x = 0 := by
  unfold abL
  split
  · exact h
  · intro q
    apply h
    have := congrArg (fun z => -z) q
    simpa using this
set_option maxHeartbeats 4000000 in
set_option maxRecDepth 100000 in
theorem c_D_times {l : Launch} (htr : l.stackTraces = false) {δ : EX} {ad : Nat → Nat} {M : DS} {x y : Int64} : CTP l y_D_times cw_D_times (RM 1) δ (dl δ ad M) [.long x, .long y] (oL (tiS x y)) := by
  refine CT.ofP (lv := [(0, .long x), (2, .long y)]) (Or.inl ⟨rfl, rfl⟩) (by decide) htr rfl (Nat.le_of_ble_eq_true rfl) (fun κ hl X => ?_)
  subst hl
  refine g_lload_n X 0 d_D_times_0 rfl rfl ?_
  refine g_lconst X (v := 0) d_D_times_1 (by decide) ?_
  refine g_lcmp X d_D_times_2 ?_
  refine g_if_eq X 32 d_D_times_3 (by decide) (fun hc => ?_) (fun hc => ?_)
  · have h := (lg_cmp_eq _ _).mp hc
    refine g_lload_n X 0 d_D_times_32 rfl rfl ?_
    refine g_lload_n X 2 d_D_times_33 rfl rfl ?_
    refine g_lmul X d_D_times_34 ?_
    exact g_lret X KOk.p d_D_times_35 ⟨by simp [tiS, h, oL], rfl⟩
  · have h : ¬ x = 0 := fun q => hc ((lg_cmp_eq _ _).mpr q)
    refine g_lload_n X 2 d_D_times_6 rfl rfl ?_
    refine g_labs X kl_D_175 d_D_times_7 ⟨Nat.le_of_ble_eq_true rfl, Nat.le_of_ble_eq_true rfl, Nat.le_of_ble_eq_true rfl, Nat.le_of_ble_eq_true rfl⟩ ?_
    refine g_ldc2 X d_D_times_10 kq_D_179 ?_
    refine g_lload_n X 0 d_D_times_13 rfl rfl ?_
    refine g_labs X kl_D_175 d_D_times_14 ⟨Nat.le_of_ble_eq_true rfl, Nat.le_of_ble_eq_true rfl, Nat.le_of_ble_eq_true rfl, Nat.le_of_ble_eq_true rfl⟩ ?_
    refine g_ldiv X d_D_times_17 (abL_0 h) ?_
    refine g_lcmp X d_D_times_18 ?_
    refine g_if_le X 32 d_D_times_19 (by decide) (fun hd => ?_) (fun hd => ?_)
    · have h2 := Int64.not_lt.mpr ((lg_cmp_le _ _).mp hd)
      refine g_lload_n X 0 d_D_times_32 rfl rfl ?_
      refine g_lload_n X 2 d_D_times_33 rfl rfl ?_
      refine g_lmul X d_D_times_34 ?_
      exact g_lret X KOk.p d_D_times_35 ⟨by simp only [tiS]; rw [if_neg (fun q => h2 q.2)]; rfl, rfl⟩
    · have h2 := Int64.not_le.mp (fun q => hd ((lg_cmp_le _ _).mpr q))
      exact x_4 X kr_D_181 d_D_times_22 d_D_times_25 d_D_times_26 d_D_times_28 d_D_times_31 ⟨Nat.le_of_ble_eq_true rfl, Nat.le_of_ble_eq_true rfl, Nat.le_of_ble_eq_true rfl, Nat.le_of_ble_eq_true rfl⟩ ⟨by simp only [tiS]; rw [if_pos ⟨h, h2⟩]; rfl, rfl⟩
set_option maxHeartbeats 4000000 in
set_option maxRecDepth 100000 in
theorem c_D_sumOver {l : Launch} (htr : l.stackTraces = false) {δ : EX} {ad : Nat → Nat} {M : DS} {k : Nat} {x y : Int64} (hk : k < 4) : CTP l y_D_sumOver cw_D_sumOver (RM 2) δ (dl δ ad M) [.int (nI k), .long x, .long y] (oL (suS k x y)) := by
  refine CT.ofP (lv := [(0, .int (nI k)), (1, .long x), (3, .long y)]) (Or.inl ⟨rfl, rfl⟩) (by decide) htr rfl (Nat.le_of_ble_eq_true rfl) (fun κ hl X => ?_)
  subst hl
  refine g_iload_n X 0 d_D_sumOver_0 rfl rfl ?_
  obtain rfl | rfl | rfl | rfl : k = 0 ∨ k = 1 ∨ k = 2 ∨ k = 3 := by omega
  · refine g_tin X (off := 27) 28 d_D_sumOver_1 (by decide) (by decide) (by decide) (by decide) ?_
    refine g_lload_n X 1 d_D_sumOver_28 rfl rfl ?_
    refine g_lload_n X 3 d_D_sumOver_29 rfl rfl ?_
    have hC := c_D_plus htr (δ := δ) (ad := ad) (M := M) (x := x) (y := y)
    cases hv : plS x y with
    | none =>
      rw [hv] at hC
      exact g_ST X KOk.p s_D_149 (hC) d_D_sumOver_30 rfl ⟨Nat.le_of_ble_eq_true rfl, Nat.le_of_ble_eq_true rfl, Nat.le_of_ble_eq_true rfl, Nat.le_of_ble_eq_true rfl⟩ ⟨by simp [suS, hv, oL], rfl⟩
    | some v =>
      rw [hv] at hC
      refine g_SP X KOk.p s_D_149 (hC) d_D_sumOver_30 rfl ⟨Nat.le_of_ble_eq_true rfl, Nat.le_of_ble_eq_true rfl, Nat.le_of_ble_eq_true rfl, Nat.le_of_ble_eq_true rfl⟩ ?_
      exact g_lret X KOk.p d_D_sumOver_33 ⟨by simp [suS, hv, oL], rfl⟩
  · refine g_tin X (off := 33) 34 d_D_sumOver_1 (by decide) (by decide) (by decide) (by decide) ?_
    refine g_lload_n X 1 d_D_sumOver_34 rfl rfl ?_
    refine g_lload_n X 3 d_D_sumOver_35 rfl rfl ?_
    refine g_lmin X kl_D_153 d_D_sumOver_36 ⟨Nat.le_of_ble_eq_true rfl, Nat.le_of_ble_eq_true rfl, Nat.le_of_ble_eq_true rfl, Nat.le_of_ble_eq_true rfl⟩ ?_
    exact g_lret X KOk.p d_D_sumOver_39 ⟨by simp [suS, oL], rfl⟩
  · refine g_tin X (off := 39) 40 d_D_sumOver_1 (by decide) (by decide) (by decide) (by decide) ?_
    refine g_lload_n X 1 d_D_sumOver_40 rfl rfl ?_
    refine g_lconst X (v := 0) d_D_sumOver_41 (by decide) ?_
    refine g_lcmp X d_D_sumOver_42 ?_
    refine g_if_ne X 52 d_D_sumOver_43 (by decide) (fun hc => ?_) (fun hc => ?_)
    · have h : ¬ x = 0 := fun q => hc ((lg_cmp_eq _ _).mpr q)
      refine g_lconst X (v := 1) d_D_sumOver_52 (by decide) ?_
      refine g_goto X 57 d_D_sumOver_53 (by decide) ?_
      exact g_lret X KOk.p d_D_sumOver_57 ⟨by simp [suS, oL, h], rfl⟩
    · have h := (lg_cmp_eq _ _).mp hc
      refine g_lload_n X 3 d_D_sumOver_46 rfl rfl ?_
      refine g_lconst X (v := 0) d_D_sumOver_47 (by decide) ?_
      refine g_lcmp X d_D_sumOver_48 ?_
      refine g_if_eq X 56 d_D_sumOver_49 (by decide) (fun hd => ?_) (fun hd => ?_)
      · have h2 := (lg_cmp_eq _ _).mp hd
        refine g_lconst X (v := 0) d_D_sumOver_56 (by decide) ?_
        exact g_lret X KOk.p d_D_sumOver_57 ⟨by simp [suS, oL, h, h2], rfl⟩
      · have h2 : ¬ y = 0 := fun q => hd ((lg_cmp_eq _ _).mpr q)
        refine g_lconst X (v := 1) d_D_sumOver_52 (by decide) ?_
        refine g_goto X 57 d_D_sumOver_53 (by decide) ?_
        exact g_lret X KOk.p d_D_sumOver_57 ⟨by simp [suS, oL, h2], rfl⟩
  · refine g_tout X 58 d_D_sumOver_1 (by decide) (by decide) ?_
    refine g_lload_n X 1 d_D_sumOver_58 rfl rfl ?_
    refine g_lload_n X 3 d_D_sumOver_59 rfl rfl ?_
    refine g_lmax X kl_D_158 d_D_sumOver_60 ⟨Nat.le_of_ble_eq_true rfl, Nat.le_of_ble_eq_true rfl, Nat.le_of_ble_eq_true rfl, Nat.le_of_ble_eq_true rfl⟩ ?_
    exact g_lret X KOk.p d_D_sumOver_63 ⟨by simp [suS, oL], rfl⟩
set_option maxHeartbeats 4000000 in
set_option maxRecDepth 100000 in
theorem c_D_productOver {l : Launch} (htr : l.stackTraces = false) {δ : EX} {ad : Nat → Nat} {M : DS} {k : Nat} {x y : Int64} (hk : k < 4) : CTP l y_D_productOver cw_D_productOver (RM 2) δ (dl δ ad M) [.int (nI k), .long x, .long y] (oL (prS k x y)) := by
  refine CT.ofP (lv := [(0, .int (nI k)), (1, .long x), (3, .long y)]) (Or.inl ⟨rfl, rfl⟩) (by decide) htr rfl (Nat.le_of_ble_eq_true rfl) (fun κ hl X => ?_)
  subst hl
  refine g_iload_n X 0 d_D_productOver_0 rfl rfl ?_
  obtain rfl | rfl | rfl | rfl : k = 0 ∨ k = 1 ∨ k = 2 ∨ k = 3 := by omega
  · refine g_tin X (off := 27) 28 d_D_productOver_1 (by decide) (by decide) (by decide) (by decide) ?_
    refine g_lload_n X 1 d_D_productOver_28 rfl rfl ?_
    refine g_lload_n X 3 d_D_productOver_29 rfl rfl ?_
    have hC := c_D_times htr (δ := δ) (ad := ad) (M := M) (x := x) (y := y)
    cases hv : tiS x y with
    | none =>
      rw [hv] at hC
      exact g_ST X KOk.p s_D_161 (hC) d_D_productOver_30 rfl ⟨Nat.le_of_ble_eq_true rfl, Nat.le_of_ble_eq_true rfl, Nat.le_of_ble_eq_true rfl, Nat.le_of_ble_eq_true rfl⟩ ⟨by simp [prS, hv, oL], rfl⟩
    | some v =>
      rw [hv] at hC
      refine g_SP X KOk.p s_D_161 (hC) d_D_productOver_30 rfl ⟨Nat.le_of_ble_eq_true rfl, Nat.le_of_ble_eq_true rfl, Nat.le_of_ble_eq_true rfl, Nat.le_of_ble_eq_true rfl⟩ ?_
      exact g_lret X KOk.p d_D_productOver_33 ⟨by simp [prS, hv, oL], rfl⟩
  · refine g_tin X (off := 33) 34 d_D_productOver_1 (by decide) (by decide) (by decide) (by decide) ?_
    refine g_lload_n X 1 d_D_productOver_34 rfl rfl ?_
    refine g_lload_n X 3 d_D_productOver_35 rfl rfl ?_
    have hC := c_D_plus htr (δ := δ) (ad := ad) (M := M) (x := x) (y := y)
    cases hv : plS x y with
    | none =>
      rw [hv] at hC
      exact g_ST X KOk.p s_D_149 (hC) d_D_productOver_36 rfl ⟨Nat.le_of_ble_eq_true rfl, Nat.le_of_ble_eq_true rfl, Nat.le_of_ble_eq_true rfl, Nat.le_of_ble_eq_true rfl⟩ ⟨by simp [prS, hv, oL], rfl⟩
    | some v =>
      rw [hv] at hC
      refine g_SP X KOk.p s_D_149 (hC) d_D_productOver_36 rfl ⟨Nat.le_of_ble_eq_true rfl, Nat.le_of_ble_eq_true rfl, Nat.le_of_ble_eq_true rfl, Nat.le_of_ble_eq_true rfl⟩ ?_
      exact g_lret X KOk.p d_D_productOver_39 ⟨by simp [prS, hv, oL], rfl⟩
  · refine g_tin X (off := 39) 40 d_D_productOver_1 (by decide) (by decide) (by decide) (by decide) ?_
    refine g_lload_n X 1 d_D_productOver_40 rfl rfl ?_
    refine g_lconst X (v := 0) d_D_productOver_41 (by decide) ?_
    refine g_lcmp X d_D_productOver_42 ?_
    refine g_if_eq X 56 d_D_productOver_43 (by decide) (fun hc => ?_) (fun hc => ?_)
    · have h := (lg_cmp_eq _ _).mp hc
      refine g_lconst X (v := 0) d_D_productOver_56 (by decide) ?_
      exact g_lret X KOk.p d_D_productOver_57 ⟨by simp [prS, oL, h], rfl⟩
    · have h : ¬ x = 0 := fun q => hc ((lg_cmp_eq _ _).mpr q)
      refine g_lload_n X 3 d_D_productOver_46 rfl rfl ?_
      refine g_lconst X (v := 0) d_D_productOver_47 (by decide) ?_
      refine g_lcmp X d_D_productOver_48 ?_
      refine g_if_eq X 56 d_D_productOver_49 (by decide) (fun hd => ?_) (fun hd => ?_)
      · have h2 := (lg_cmp_eq _ _).mp hd
        refine g_lconst X (v := 0) d_D_productOver_56 (by decide) ?_
        exact g_lret X KOk.p d_D_productOver_57 ⟨by simp [prS, oL, h2], rfl⟩
      · have h2 : ¬ y = 0 := fun q => hd ((lg_cmp_eq _ _).mpr q)
        refine g_lconst X (v := 1) d_D_productOver_52 (by decide) ?_
        refine g_goto X 57 d_D_productOver_53 (by decide) ?_
        exact g_lret X KOk.p d_D_productOver_57 ⟨by simp [prS, oL, h, h2], rfl⟩
  · refine g_tout X 58 d_D_productOver_1 (by decide) (by decide) ?_
    refine g_lload_n X 1 d_D_productOver_58 rfl rfl ?_
    refine g_lload_n X 3 d_D_productOver_59 rfl rfl ?_
    refine g_lmin X kl_D_153 d_D_productOver_60 ⟨Nat.le_of_ble_eq_true rfl, Nat.le_of_ble_eq_true rfl, Nat.le_of_ble_eq_true rfl, Nat.le_of_ble_eq_true rfl⟩ ?_
    exact g_lret X KOk.p d_D_productOver_63 ⟨by simp [prS, oL], rfl⟩
end SE
end
section
section RB
set_option maxHeartbeats 4000000 in
set_option maxRecDepth 100000 in
theorem c_D_reqOps {l : Launch} (htr : l.stackTraces = false) {δ : EX} {ad : Nat → Nat} {M : DS} {r1 r2 r3 k : Nat} (h1 : r1 < 6) (h2 : r2 < 6) (h3 : r3 < 6) (hk : k < 4) : CTP l y_D_requireOperands cw_D_requireOperands (RM 1) δ (dl δ ad M) [.int (nI r1), .int (nI r2), .int (nI r3), .int (nI k)] (.inr none) := by
  refine CT.ofP (lv := [(0, .int (nI r1)), (1, .int (nI r2)), (2, .int (nI r3)), (3, .int (nI k))]) (Or.inl ⟨rfl, rfl⟩) (by decide) htr rfl (Nat.le_of_ble_eq_true rfl) (fun κ hl X => ?_)
  subst hl
  refine g_iload_n X 0 d_D_requireOperands_0 rfl rfl ?_
  refine g_SP X KOk.p s_D_20 (c_D_reqReg htr h1) d_D_requireOperands_1 rfl ⟨Nat.le_of_ble_eq_true rfl, Nat.le_of_ble_eq_true rfl, Nat.le_of_ble_eq_true rfl, Nat.le_of_ble_eq_true rfl⟩ ?_
  refine g_iload_n X 1 d_D_requireOperands_4 rfl rfl ?_
  refine g_SP X KOk.p s_D_20 (c_D_reqReg htr h2) d_D_requireOperands_5 rfl ⟨Nat.le_of_ble_eq_true rfl, Nat.le_of_ble_eq_true rfl, Nat.le_of_ble_eq_true rfl, Nat.le_of_ble_eq_true rfl⟩ ?_
  refine g_iload_n X 2 d_D_requireOperands_8 rfl rfl ?_
  refine g_SP X KOk.p s_D_20 (c_D_reqReg htr h3) d_D_requireOperands_9 rfl ⟨Nat.le_of_ble_eq_true rfl, Nat.le_of_ble_eq_true rfl, Nat.le_of_ble_eq_true rfl, Nat.le_of_ble_eq_true rfl⟩ ?_
  refine g_iload_n X 3 d_D_requireOperands_12 rfl rfl ?_
  refine g_SP X KOk.p s_D_116 (c_D_reqSem htr hk) d_D_requireOperands_13 rfl ⟨Nat.le_of_ble_eq_true rfl, Nat.le_of_ble_eq_true rfl, Nat.le_of_ble_eq_true rfl, Nat.le_of_ble_eq_true rfl⟩ ?_
  exact g_vret X KOk.p d_D_requireOperands_16 ⟨rfl, rfl⟩
set_option maxHeartbeats 4000000 in
set_option maxRecDepth 100000 in
theorem c_D_reqOps_x {l : Launch} (htr : l.stackTraces = false) {δ : EX} {ad : Nat → Nat} {M : DS} {x1 x2 x3 x4 : Int32} (h : bR x1 ∨ bR x2 ∨ bR x3 ∨ bH 3 x4) : CTP l y_D_requireOperands cw_D_requireOperands (RM 1) δ (dl δ ad M) [.int x1, .int x2, .int x3, .int x4] (.inl 1) := by
  refine CT.ofP (lv := [(0, .int x1), (1, .int x2), (2, .int x3), (3, .int x4)]) (Or.inl ⟨rfl, rfl⟩) (by decide) htr rfl (Nat.le_of_ble_eq_true rfl) (fun κ hl X => ?_)
  subst hl
  refine g_iload_n X 0 d_D_requireOperands_0 rfl rfl ?_
  rcases bR_or x1 with q | ⟨r1, h1, rfl⟩
  · exact g_ST X KOk.p s_D_20 (c_D_reqReg_x htr q) d_D_requireOperands_1 rfl ⟨Nat.le_of_ble_eq_true rfl, Nat.le_of_ble_eq_true rfl, Nat.le_of_ble_eq_true rfl, Nat.le_of_ble_eq_true rfl⟩ ⟨rfl, rfl⟩
  refine g_SP X KOk.p s_D_20 (c_D_reqReg htr h1) d_D_requireOperands_1 rfl ⟨Nat.le_of_ble_eq_true rfl, Nat.le_of_ble_eq_true rfl, Nat.le_of_ble_eq_true rfl, Nat.le_of_ble_eq_true rfl⟩ ?_
  refine g_iload_n X 1 d_D_requireOperands_4 rfl rfl ?_
  rcases bR_or x2 with q | ⟨r2, h2, rfl⟩
  · exact g_ST X KOk.p s_D_20 (c_D_reqReg_x htr q) d_D_requireOperands_5 rfl ⟨Nat.le_of_ble_eq_true rfl, Nat.le_of_ble_eq_true rfl, Nat.le_of_ble_eq_true rfl, Nat.le_of_ble_eq_true rfl⟩ ⟨rfl, rfl⟩
  refine g_SP X KOk.p s_D_20 (c_D_reqReg htr h2) d_D_requireOperands_5 rfl ⟨Nat.le_of_ble_eq_true rfl, Nat.le_of_ble_eq_true rfl, Nat.le_of_ble_eq_true rfl, Nat.le_of_ble_eq_true rfl⟩ ?_
  refine g_iload_n X 2 d_D_requireOperands_8 rfl rfl ?_
  rcases bR_or x3 with q | ⟨r3, h3, rfl⟩
  · exact g_ST X KOk.p s_D_20 (c_D_reqReg_x htr q) d_D_requireOperands_9 rfl ⟨Nat.le_of_ble_eq_true rfl, Nat.le_of_ble_eq_true rfl, Nat.le_of_ble_eq_true rfl, Nat.le_of_ble_eq_true rfl⟩ ⟨rfl, rfl⟩
  refine g_SP X KOk.p s_D_20 (c_D_reqReg htr h3) d_D_requireOperands_9 rfl ⟨Nat.le_of_ble_eq_true rfl, Nat.le_of_ble_eq_true rfl, Nat.le_of_ble_eq_true rfl, Nat.le_of_ble_eq_true rfl⟩ ?_
  refine g_iload_n X 3 d_D_requireOperands_12 rfl rfl ?_
  rcases h with h | h | h | h
  · exact absurd h (bR_no h1)
  · exact absurd h (bR_no h2)
  · exact absurd h (bR_no h3)
  · exact g_ST X KOk.p s_D_116 (c_D_reqSem_x htr h) d_D_requireOperands_13 rfl ⟨Nat.le_of_ble_eq_true rfl, Nat.le_of_ble_eq_true rfl, Nat.le_of_ble_eq_true rfl, Nat.le_of_ble_eq_true rfl⟩ ⟨rfl, rfl⟩
set_option maxHeartbeats 4000000 in
set_option maxRecDepth 100000 in
theorem c_D_reqMask {l : Launch} (htr : l.stackTraces = false) {δ : EX} {ad : Nat → Nat} {M : DS} {x : Int32} (h : x = -1 ∨ ∃ r, r < 6 ∧ x = nI r) : CTP l y_D_requireMask cw_D_requireMask (RM 1) δ (dl δ ad M) [.int x] (.inr none) := by
  refine CT.ofP (lv := [(0, .int x)]) (Or.inl ⟨rfl, rfl⟩) (by decide) htr rfl (Nat.le_of_ble_eq_true rfl) (fun κ hl X => ?_)
  subst hl
  refine g_iload_n X 0 d_D_requireMask_0 rfl rfl ?_
  refine g_iconst X (v := (-1)) d_D_requireMask_1 (by decide) ?_
  refine g_icmp_eq X 9 d_D_requireMask_2 (by decide) (fun hc => ?_) (fun hc => ?_)
  · exact g_vret X KOk.p d_D_requireMask_9 ⟨rfl, rfl⟩
  · rcases h with h | ⟨r, h1, rfl⟩
    · exact absurd h hc
    · refine g_iload_n X 0 d_D_requireMask_5 rfl rfl ?_
      refine g_SP X KOk.p s_D_20 (c_D_reqReg htr h1) d_D_requireMask_6 rfl ⟨Nat.le_of_ble_eq_true rfl, Nat.le_of_ble_eq_true rfl, Nat.le_of_ble_eq_true rfl, Nat.le_of_ble_eq_true rfl⟩ ?_
      exact g_vret X KOk.p d_D_requireMask_9 ⟨rfl, rfl⟩
set_option maxHeartbeats 4000000 in
set_option maxRecDepth 100000 in
theorem c_D_reqMask_x {l : Launch} (htr : l.stackTraces = false) {δ : EX} {ad : Nat → Nat} {M : DS} {x : Int32} (h : ¬ x = -1) (h2 : bR x) : CTP l y_D_requireMask cw_D_requireMask (RM 1) δ (dl δ ad M) [.int x] (.inl 1) := by
  refine CT.ofP (lv := [(0, .int x)]) (Or.inl ⟨rfl, rfl⟩) (by decide) htr rfl (Nat.le_of_ble_eq_true rfl) (fun κ hl X => ?_)
  subst hl
  refine g_iload_n X 0 d_D_requireMask_0 rfl rfl ?_
  refine g_iconst X (v := (-1)) d_D_requireMask_1 (by decide) ?_
  refine g_icmp_eq X 9 d_D_requireMask_2 (by decide) (fun hc => ?_) (fun hc => ?_)
  · exact absurd hc h
  · refine g_iload_n X 0 d_D_requireMask_5 rfl rfl ?_
    exact g_ST X KOk.p s_D_20 (c_D_reqReg_x htr h2) d_D_requireMask_6 rfl ⟨Nat.le_of_ble_eq_true rfl, Nat.le_of_ble_eq_true rfl, Nat.le_of_ble_eq_true rfl, Nat.le_of_ble_eq_true rfl⟩ ⟨rfl, rfl⟩
set_option maxHeartbeats 4000000 in
set_option maxRecDepth 100000 in
theorem c_D_reqPl {l : Launch} (htr : l.stackTraces = false) {δ : EX} {ad : Nat → Nat} {M : DS} {r i j : Nat} (hr : r < 6) (hi : i < (M r).1) (hj : j < (M r).2.1) (h1 : (M r).1 ≤ 8) (h2 : (M r).2.1 ≤ 8) : CTP l y_D_requirePlace cw_D_requirePlace (RM 1) δ (dl δ ad M) [.ref (ad 0), .int (nI r), .int (nI i), .int (nI j)] (.inr none) := by
  refine CT.ofP (lv := [(0, .ref (ad 0)), (1, .int (nI r)), (2, .int (nI i)), (3, .int (nI j))]) (Or.inl ⟨rfl, rfl⟩) (by decide) htr rfl (Nat.le_of_ble_eq_true rfl) (fun κ hl X => ?_)
  subst hl
  refine g_iload_n X 1 d_D_requirePlace_0 rfl rfl ?_
  refine g_SP X KOk.p s_D_20 (c_D_reqReg htr hr) d_D_requirePlace_1 rfl ⟨Nat.le_of_ble_eq_true rfl, Nat.le_of_ble_eq_true rfl, Nat.le_of_ble_eq_true rfl, Nat.le_of_ble_eq_true rfl⟩ ?_
  refine g_iload_n X 2 d_D_requirePlace_4 rfl rfl ?_
  refine g_if_lt X 38 d_D_requirePlace_5 (by decide) (fun hc => ?_) (fun hc => ?_)
  · exact absurd hc (nI_pos (by omega))
  clear hc
  refine g_iload_n X 2 d_D_requirePlace_8 rfl rfl ?_
  refine g_aload_n X 0 d_D_requirePlace_9 rfl rfl ?_
  refine r_regs X d_D_requirePlace_10 ?_
  refine g_iload_n X 1 d_D_requirePlace_13 rfl rfl ?_
  refine r_aald X rfl (by omega) d_D_requirePlace_14 ?_
  refine r_rows X kf_D_58 d_D_requirePlace_15 (by omega) ?_
  refine g_icmp_ge X 38 d_D_requirePlace_18 (by decide) (fun hc => ?_) (fun hc => ?_)
  · exact absurd hc (nI_ge hi (by omega))
  clear hc
  refine g_iload_n X 3 d_D_requirePlace_21 rfl rfl ?_
  refine g_if_lt X 38 d_D_requirePlace_22 (by decide) (fun hc => ?_) (fun hc => ?_)
  · exact absurd hc (nI_pos (by omega))
  clear hc
  refine g_iload_n X 3 d_D_requirePlace_25 rfl rfl ?_
  refine g_aload_n X 0 d_D_requirePlace_26 rfl rfl ?_
  refine r_regs X d_D_requirePlace_27 ?_
  refine g_iload_n X 1 d_D_requirePlace_30 rfl rfl ?_
  refine r_aald X rfl (by omega) d_D_requirePlace_31 ?_
  refine r_cols X kf_D_62 d_D_requirePlace_32 (by omega) ?_
  refine g_icmp_lt X 48 d_D_requirePlace_35 (by decide) (fun hc => ?_) (fun hc => ?_)
  · exact g_vret X KOk.p d_D_requirePlace_48 ⟨rfl, rfl⟩
  · exact absurd (nI_lt hj (by omega)) hc
set_option maxHeartbeats 4000000 in
set_option maxRecDepth 100000 in
theorem c_D_reqPl_x1 {l : Launch} (htr : l.stackTraces = false) {δ : EX} {ad : Nat → Nat} {M : DS} {x i j : Int32} (hx : bR x) : CTP l y_D_requirePlace cw_D_requirePlace (RM 1) δ (dl δ ad M) [.ref (ad 0), .int x, .int i, .int j] (.inl 1) := by
  refine CT.ofP (lv := [(0, .ref (ad 0)), (1, .int x), (2, .int i), (3, .int j)]) (Or.inl ⟨rfl, rfl⟩) (by decide) htr rfl (Nat.le_of_ble_eq_true rfl) (fun κ hl X => ?_)
  subst hl
  refine g_iload_n X 1 d_D_requirePlace_0 rfl rfl ?_
  exact g_ST X KOk.p s_D_20 (c_D_reqReg_x htr hx) d_D_requirePlace_1 rfl ⟨Nat.le_of_ble_eq_true rfl, Nat.le_of_ble_eq_true rfl, Nat.le_of_ble_eq_true rfl, Nat.le_of_ble_eq_true rfl⟩ ⟨rfl, rfl⟩
set_option maxHeartbeats 4000000 in
set_option maxRecDepth 100000 in
theorem c_D_reqPl_x2 {l : Launch} (htr : l.stackTraces = false) {δ : EX} {ad : Nat → Nat} {M : DS} {r : Nat} {i j : Int32} (hr : r < 6) (h : i < 0 ∨ nI (M r).1 ≤ i ∨ j < 0 ∨ nI (M r).2.1 ≤ j) : CTP l y_D_requirePlace cw_D_requirePlace (RM 1) δ (dl δ ad M) [.ref (ad 0), .int (nI r), .int i, .int j] (.inl 1) := by
  refine CT.ofP (lv := [(0, .ref (ad 0)), (1, .int (nI r)), (2, .int i), (3, .int j)]) (Or.inl ⟨rfl, rfl⟩) (by decide) htr rfl (Nat.le_of_ble_eq_true rfl) (fun κ hl X => ?_)
  subst hl
  refine g_iload_n X 1 d_D_requirePlace_0 rfl rfl ?_
  refine g_SP X KOk.p s_D_20 (c_D_reqReg htr hr) d_D_requirePlace_1 rfl ⟨Nat.le_of_ble_eq_true rfl, Nat.le_of_ble_eq_true rfl, Nat.le_of_ble_eq_true rfl, Nat.le_of_ble_eq_true rfl⟩ ?_
  refine g_iload_n X 2 d_D_requirePlace_4 rfl rfl ?_
  refine g_if_lt X 38 d_D_requirePlace_5 (by decide) (fun hc => ?_) (fun hc => ?_)
  · exact x_1 X kr_D_200 d_D_requirePlace_38 d_D_requirePlace_41 d_D_requirePlace_42 d_D_requirePlace_44 d_D_requirePlace_47 ⟨Nat.le_of_ble_eq_true rfl, Nat.le_of_ble_eq_true rfl, Nat.le_of_ble_eq_true rfl, Nat.le_of_ble_eq_true rfl⟩ ⟨rfl, rfl⟩
  refine g_iload_n X 2 d_D_requirePlace_8 rfl rfl ?_
  refine g_aload_n X 0 d_D_requirePlace_9 rfl rfl ?_
  refine r_regs X d_D_requirePlace_10 ?_
  refine g_iload_n X 1 d_D_requirePlace_13 rfl rfl ?_
  refine r_aald X rfl (by omega) d_D_requirePlace_14 ?_
  refine r_rows X kf_D_58 d_D_requirePlace_15 (by omega) ?_
  refine g_icmp_ge X 38 d_D_requirePlace_18 (by decide) (fun hd => ?_) (fun hd => ?_)
  · exact x_1 X kr_D_200 d_D_requirePlace_38 d_D_requirePlace_41 d_D_requirePlace_42 d_D_requirePlace_44 d_D_requirePlace_47 ⟨Nat.le_of_ble_eq_true rfl, Nat.le_of_ble_eq_true rfl, Nat.le_of_ble_eq_true rfl, Nat.le_of_ble_eq_true rfl⟩ ⟨rfl, rfl⟩
  refine g_iload_n X 3 d_D_requirePlace_21 rfl rfl ?_
  refine g_if_lt X 38 d_D_requirePlace_22 (by decide) (fun he => ?_) (fun he => ?_)
  · exact x_1 X kr_D_200 d_D_requirePlace_38 d_D_requirePlace_41 d_D_requirePlace_42 d_D_requirePlace_44 d_D_requirePlace_47 ⟨Nat.le_of_ble_eq_true rfl, Nat.le_of_ble_eq_true rfl, Nat.le_of_ble_eq_true rfl, Nat.le_of_ble_eq_true rfl⟩ ⟨rfl, rfl⟩
  refine g_iload_n X 3 d_D_requirePlace_25 rfl rfl ?_
  refine g_aload_n X 0 d_D_requirePlace_26 rfl rfl ?_
  refine r_regs X d_D_requirePlace_27 ?_
  refine g_iload_n X 1 d_D_requirePlace_30 rfl rfl ?_
  refine r_aald X rfl (by omega) d_D_requirePlace_31 ?_
  refine r_cols X kf_D_62 d_D_requirePlace_32 (by omega) ?_
  refine g_icmp_lt X 48 d_D_requirePlace_35 (by decide) (fun hf => ?_) (fun hf => ?_)
  · rcases h with h | h | h | h
    · exact absurd h hc
    · exact absurd h hd
    · exact absurd h he
    · exact absurd hf (Int32.not_lt.mpr h)
  · exact x_1 X kr_D_200 d_D_requirePlace_38 d_D_requirePlace_41 d_D_requirePlace_42 d_D_requirePlace_44 d_D_requirePlace_47 ⟨Nat.le_of_ble_eq_true rfl, Nat.le_of_ble_eq_true rfl, Nat.le_of_ble_eq_true rfl, Nat.le_of_ble_eq_true rfl⟩ ⟨rfl, rfl⟩
set_option maxHeartbeats 4000000 in
set_option maxRecDepth 100000 in
theorem c_D_reqSame {l : Launch} (htr : l.stackTraces = false) {δ : EX} {ad : Nat → Nat} {M : DS} {a b : Nat} (ha : a < 6) (hb : b < 6) (hM : ∀ k, k < 7 → (M k).1 ≤ 8 ∧ (M k).2.1 ≤ 8) (h : (M a).1 = (M b).1 ∧ (M a).2.1 = (M b).2.1) : CTP l y_D_requireSameShape cw_D_requireSameShape (RM 1) δ (dl δ ad M) [.ref (ad 0), .int (nI a), .int (nI b)] (.inr none) := by
  refine CT.ofP (lv := [(0, .ref (ad 0)), (1, .int (nI a)), (2, .int (nI b))]) (Or.inl ⟨rfl, rfl⟩) (by decide) htr rfl (Nat.le_of_ble_eq_true rfl) (fun κ hl X => ?_)
  subst hl
  refine g_aload_n X 0 d_D_requireSameShape_0 rfl rfl ?_
  refine r_regs X d_D_requireSameShape_1 ?_
  refine g_iload_n X 1 d_D_requireSameShape_4 rfl rfl ?_
  refine r_aald X rfl (by omega) d_D_requireSameShape_5 ?_
  refine g_aload_n X 0 d_D_requireSameShape_6 rfl rfl ?_
  refine r_regs X d_D_requireSameShape_7 ?_
  refine g_iload_n X 2 d_D_requireSameShape_10 rfl rfl ?_
  refine r_aald X rfl (by omega) d_D_requireSameShape_11 ?_
  refine r_rows X kf_D_58 d_D_requireSameShape_12 (by omega) ?_
  refine g_aload_n X 0 d_D_requireSameShape_15 rfl rfl ?_
  refine r_regs X d_D_requireSameShape_16 ?_
  refine g_iload_n X 2 d_D_requireSameShape_19 rfl rfl ?_
  refine r_aald X rfl (by omega) d_D_requireSameShape_20 ?_
  refine r_cols X kf_D_62 d_D_requireSameShape_21 (by omega) ?_
  refine g_VP X KOk.p v_D_82 (dl_m (by omega)) rfl (c_M_isShaped htr (by omega) (hM a (by omega)).1 (hM a (by omega)).2 (hM b (by omega)).1 (hM b (by omega)).2) d_D_requireSameShape_24 rfl ⟨Nat.le_of_ble_eq_true rfl, Nat.le_of_ble_eq_true rfl, Nat.le_of_ble_eq_true rfl, Nat.le_of_ble_eq_true rfl⟩ ?_
  refine g_SP X KOk.p s_D_79 (c_D_reqFit htr (decide_eq_true h)) d_D_requireSameShape_27 rfl ⟨Nat.le_of_ble_eq_true rfl, Nat.le_of_ble_eq_true rfl, Nat.le_of_ble_eq_true rfl, Nat.le_of_ble_eq_true rfl⟩ ?_
  exact g_vret X KOk.p d_D_requireSameShape_30 ⟨rfl, rfl⟩
set_option maxHeartbeats 4000000 in
set_option maxRecDepth 100000 in
theorem c_D_reqSame_x {l : Launch} (htr : l.stackTraces = false) {δ : EX} {ad : Nat → Nat} {M : DS} {a b : Nat} (ha : a < 6) (hb : b < 6) (hM : ∀ k, k < 7 → (M k).1 ≤ 8 ∧ (M k).2.1 ≤ 8) (h : ¬ ((M a).1 = (M b).1 ∧ (M a).2.1 = (M b).2.1)) : CTP l y_D_requireSameShape cw_D_requireSameShape (RM 1) δ (dl δ ad M) [.ref (ad 0), .int (nI a), .int (nI b)] (.inl 2) := by
  refine CT.ofP (lv := [(0, .ref (ad 0)), (1, .int (nI a)), (2, .int (nI b))]) (Or.inl ⟨rfl, rfl⟩) (by decide) htr rfl (Nat.le_of_ble_eq_true rfl) (fun κ hl X => ?_)
  subst hl
  refine g_aload_n X 0 d_D_requireSameShape_0 rfl rfl ?_
  refine r_regs X d_D_requireSameShape_1 ?_
  refine g_iload_n X 1 d_D_requireSameShape_4 rfl rfl ?_
  refine r_aald X rfl (by omega) d_D_requireSameShape_5 ?_
  refine g_aload_n X 0 d_D_requireSameShape_6 rfl rfl ?_
  refine r_regs X d_D_requireSameShape_7 ?_
  refine g_iload_n X 2 d_D_requireSameShape_10 rfl rfl ?_
  refine r_aald X rfl (by omega) d_D_requireSameShape_11 ?_
  refine r_rows X kf_D_58 d_D_requireSameShape_12 (by omega) ?_
  refine g_aload_n X 0 d_D_requireSameShape_15 rfl rfl ?_
  refine r_regs X d_D_requireSameShape_16 ?_
  refine g_iload_n X 2 d_D_requireSameShape_19 rfl rfl ?_
  refine r_aald X rfl (by omega) d_D_requireSameShape_20 ?_
  refine r_cols X kf_D_62 d_D_requireSameShape_21 (by omega) ?_
  refine g_VP X KOk.p v_D_82 (dl_m (by omega)) rfl (c_M_isShaped htr (by omega) (hM a (by omega)).1 (hM a (by omega)).2 (hM b (by omega)).1 (hM b (by omega)).2) d_D_requireSameShape_24 rfl ⟨Nat.le_of_ble_eq_true rfl, Nat.le_of_ble_eq_true rfl, Nat.le_of_ble_eq_true rfl, Nat.le_of_ble_eq_true rfl⟩ ?_
  exact g_ST X KOk.p s_D_79 (c_D_reqFit_x htr (decide_eq_false h)) d_D_requireSameShape_27 rfl ⟨Nat.le_of_ble_eq_true rfl, Nat.le_of_ble_eq_true rfl, Nat.le_of_ble_eq_true rfl, Nat.le_of_ble_eq_true rfl⟩ ⟨rfl, rfl⟩
set_option maxHeartbeats 4000000 in
set_option maxRecDepth 100000 in
theorem c_D_reqGr_x1 {l : Launch} (htr : l.stackTraces = false) {δ : EX} {ad : Nat → Nat} {M : DS} {x : Int32} (hx : bR x) : CTP l y_D_requireGraph cw_D_requireGraph (RM 1) δ (dl δ ad M) [.ref (ad 0), .int x] (.inl 1) := by
  refine CT.ofP (lv := [(0, .ref (ad 0)), (1, .int x)]) (Or.inl ⟨rfl, rfl⟩) (by decide) htr rfl (Nat.le_of_ble_eq_true rfl) (fun κ hl X => ?_)
  subst hl
  refine g_iload_n X 1 d_D_requireGraph_0 rfl rfl ?_
  exact g_ST X KOk.p s_D_20 (c_D_reqReg_x htr hx) d_D_requireGraph_1 rfl ⟨Nat.le_of_ble_eq_true rfl, Nat.le_of_ble_eq_true rfl, Nat.le_of_ble_eq_true rfl, Nat.le_of_ble_eq_true rfl⟩ ⟨rfl, rfl⟩
set_option maxHeartbeats 4000000 in
set_option maxRecDepth 100000 in
theorem c_D_reqGr {l : Launch} (htr : l.stackTraces = false) {δ : EX} {ad : Nat → Nat} {M : DS} {a : Nat} (ha : a < 6) (hM : ∀ k, k < 7 → (M k).1 ≤ 8 ∧ (M k).2.1 ≤ 8) (h : (M a).1 = (M a).2.1) : CTP l y_D_requireGraph cw_D_requireGraph (RM 1) δ (dl δ ad M) [.ref (ad 0), .int (nI a)] (.inr none) := by
  refine CT.ofP (lv := [(0, .ref (ad 0)), (1, .int (nI a))]) (Or.inl ⟨rfl, rfl⟩) (by decide) htr rfl (Nat.le_of_ble_eq_true rfl) (fun κ hl X => ?_)
  subst hl
  refine g_iload_n X 1 d_D_requireGraph_0 rfl rfl ?_
  refine g_SP X KOk.p s_D_20 (c_D_reqReg htr ha) d_D_requireGraph_1 rfl ⟨Nat.le_of_ble_eq_true rfl, Nat.le_of_ble_eq_true rfl, Nat.le_of_ble_eq_true rfl, Nat.le_of_ble_eq_true rfl⟩ ?_
  refine g_aload_n X 0 d_D_requireGraph_4 rfl rfl ?_
  refine r_regs X d_D_requireGraph_5 ?_
  refine g_iload_n X 1 d_D_requireGraph_8 rfl rfl ?_
  refine r_aald X rfl (by omega) d_D_requireGraph_9 ?_
  refine r_rows X kf_D_58 d_D_requireGraph_10 (by omega) ?_
  refine g_aload_n X 0 d_D_requireGraph_13 rfl rfl ?_
  refine r_regs X d_D_requireGraph_14 ?_
  refine g_iload_n X 1 d_D_requireGraph_17 rfl rfl ?_
  refine r_aald X rfl (by omega) d_D_requireGraph_18 ?_
  refine r_cols X kf_D_62 d_D_requireGraph_19 (by omega) ?_
  refine g_icmp_ne X 29 d_D_requireGraph_22 (by decide) (fun hc => ?_) (fun hc => ?_)
  · exact absurd (by rw [h]) hc
  · refine g_iconst X (v := 1) d_D_requireGraph_25 (by decide) ?_
    refine g_goto X 30 d_D_requireGraph_26 (by decide) ?_
    refine g_SP X KOk.p s_D_79 (c_D_reqFit htr (b := true) rfl) d_D_requireGraph_30 rfl ⟨Nat.le_of_ble_eq_true rfl, Nat.le_of_ble_eq_true rfl, Nat.le_of_ble_eq_true rfl, Nat.le_of_ble_eq_true rfl⟩ ?_
    exact g_vret X KOk.p d_D_requireGraph_33 ⟨rfl, rfl⟩
set_option maxHeartbeats 4000000 in
set_option maxRecDepth 100000 in
theorem c_D_reqGr_x2 {l : Launch} (htr : l.stackTraces = false) {δ : EX} {ad : Nat → Nat} {M : DS} {a : Nat} (ha : a < 6) (hM : ∀ k, k < 7 → (M k).1 ≤ 8 ∧ (M k).2.1 ≤ 8) (h : ¬ (M a).1 = (M a).2.1) : CTP l y_D_requireGraph cw_D_requireGraph (RM 1) δ (dl δ ad M) [.ref (ad 0), .int (nI a)] (.inl 2) := by
  refine CT.ofP (lv := [(0, .ref (ad 0)), (1, .int (nI a))]) (Or.inl ⟨rfl, rfl⟩) (by decide) htr rfl (Nat.le_of_ble_eq_true rfl) (fun κ hl X => ?_)
  subst hl
  refine g_iload_n X 1 d_D_requireGraph_0 rfl rfl ?_
  refine g_SP X KOk.p s_D_20 (c_D_reqReg htr ha) d_D_requireGraph_1 rfl ⟨Nat.le_of_ble_eq_true rfl, Nat.le_of_ble_eq_true rfl, Nat.le_of_ble_eq_true rfl, Nat.le_of_ble_eq_true rfl⟩ ?_
  refine g_aload_n X 0 d_D_requireGraph_4 rfl rfl ?_
  refine r_regs X d_D_requireGraph_5 ?_
  refine g_iload_n X 1 d_D_requireGraph_8 rfl rfl ?_
  refine r_aald X rfl (by omega) d_D_requireGraph_9 ?_
  refine r_rows X kf_D_58 d_D_requireGraph_10 (by omega) ?_
  refine g_aload_n X 0 d_D_requireGraph_13 rfl rfl ?_
  refine r_regs X d_D_requireGraph_14 ?_
  refine g_iload_n X 1 d_D_requireGraph_17 rfl rfl ?_
  refine r_aald X rfl (by omega) d_D_requireGraph_18 ?_
  refine r_cols X kf_D_62 d_D_requireGraph_19 (by omega) ?_
  refine g_icmp_ne X 29 d_D_requireGraph_22 (by decide) (fun hc => ?_) (fun hc => ?_)
  · refine g_iconst X (v := 0) d_D_requireGraph_29 (by decide) ?_
    exact g_ST X KOk.p s_D_79 (c_D_reqFit_x htr (b := false) rfl) d_D_requireGraph_30 rfl ⟨Nat.le_of_ble_eq_true rfl, Nat.le_of_ble_eq_true rfl, Nat.le_of_ble_eq_true rfl, Nat.le_of_ble_eq_true rfl⟩ ⟨rfl, rfl⟩
  · exact absurd ((nI_eq (by have := hM a (by omega); omega) (by have := hM a (by omega); omega)).mp hc) h
set_option maxHeartbeats 4000000 in
set_option maxRecDepth 100000 in
theorem c_D_reqVe {l : Launch} (htr : l.stackTraces = false) {δ : EX} {ad : Nat → Nat} {M : DS} {a v : Nat} (ha : a < 7) (hv : v < (M a).1) (h8 : (M a).1 ≤ 8) : CTP l y_D_requireVertex cw_D_requireVertex (RM 0) δ (dl δ ad M) [.ref (mq ad a), .int (nI v)] (.inr none) := by
  refine CT.ofP (lv := [(0, .ref (mq ad a)), (1, .int (nI v))]) (Or.inl ⟨rfl, rfl⟩) (by decide) htr rfl (Nat.le_of_ble_eq_true rfl) (fun κ hl X => ?_)
  subst hl
  refine g_iload_n X 1 d_D_requireVertex_0 rfl rfl ?_
  refine g_if_lt X 12 d_D_requireVertex_1 (by decide) (fun hc => ?_) (fun hc => ?_)
  · exact absurd hc (nI_pos (by omega))
  clear hc
  refine g_iload_n X 1 d_D_requireVertex_4 rfl rfl ?_
  refine g_aload_n X 0 d_D_requireVertex_5 rfl rfl ?_
  refine r_rows X kf_D_58 d_D_requireVertex_6 (by omega) ?_
  refine g_icmp_lt X 22 d_D_requireVertex_9 (by decide) (fun hc => ?_) (fun hc => ?_)
  · exact g_vret X KOk.p d_D_requireVertex_22 ⟨rfl, rfl⟩
  · exact absurd (nI_lt hv (by omega)) hc
set_option maxHeartbeats 4000000 in
set_option maxRecDepth 100000 in
theorem c_D_reqVe_x {l : Launch} (htr : l.stackTraces = false) {δ : EX} {ad : Nat → Nat} {M : DS} {a : Nat} {x : Int32} (ha : a < 7) (h : x < 0 ∨ nI (M a).1 ≤ x) : CTP l y_D_requireVertex cw_D_requireVertex (RM 0) δ (dl δ ad M) [.ref (mq ad a), .int x] (.inl 3) := by
  refine CT.ofP (lv := [(0, .ref (mq ad a)), (1, .int x)]) (Or.inl ⟨rfl, rfl⟩) (by decide) htr rfl (Nat.le_of_ble_eq_true rfl) (fun κ hl X => ?_)
  subst hl
  refine g_iload_n X 1 d_D_requireVertex_0 rfl rfl ?_
  refine g_if_lt X 12 d_D_requireVertex_1 (by decide) (fun hc => ?_) (fun hc => ?_)
  · exact x_3 X kr_D_214 d_D_requireVertex_12 d_D_requireVertex_15 d_D_requireVertex_16 d_D_requireVertex_18 d_D_requireVertex_21 ⟨Nat.le_of_ble_eq_true rfl, Nat.le_of_ble_eq_true rfl, Nat.le_of_ble_eq_true rfl, Nat.le_of_ble_eq_true rfl⟩ ⟨rfl, rfl⟩
  refine g_iload_n X 1 d_D_requireVertex_4 rfl rfl ?_
  refine g_aload_n X 0 d_D_requireVertex_5 rfl rfl ?_
  refine r_rows X kf_D_58 d_D_requireVertex_6 (by omega) ?_
  refine g_icmp_lt X 22 d_D_requireVertex_9 (by decide) (fun hd => ?_) (fun hd => ?_)
  · rcases h with h | h
    · exact absurd h hc
    · exact absurd hd (Int32.not_lt.mpr h)
  · exact x_3 X kr_D_214 d_D_requireVertex_12 d_D_requireVertex_15 d_D_requireVertex_16 d_D_requireVertex_18 d_D_requireVertex_21 ⟨Nat.le_of_ble_eq_true rfl, Nat.le_of_ble_eq_true rfl, Nat.le_of_ble_eq_true rfl, Nat.le_of_ble_eq_true rfl⟩ ⟨rfl, rfl⟩
def seB (h i j : Nat) (v x : Int64) : Bool := if h = 0 then decide (v < x) else if h = 1 then decide (x < v) else if h = 2 then decide (i < j) else if h = 3 then decide (j < i) else decide (i = j)
set_option maxHeartbeats 4000000 in
set_option maxRecDepth 100000 in
theorem c_D_isSel {l : Launch} (htr : l.stackTraces = false) {δ : EX} {ad : Nat → Nat} {M : DS} {h i j : Nat} {v x : Int64} (hh : h ≤ 4) (hi : i < 8) (hj : j < 8) : CTP l y_D_isSelected cw_D_isSelected (RM 0) δ (dl δ ad M) [.int (nI h), .int (nI i), .int (nI j), .long v, .long x] (.inr (some (.int (b2 (seB h i j v x))))) := by
  refine CT.ofP (lv := [(0, .int (nI h)), (1, .int (nI i)), (2, .int (nI j)), (3, .long v), (5, .long x)]) (Or.inl ⟨rfl, rfl⟩) (by decide) htr rfl (Nat.le_of_ble_eq_true rfl) (fun κ hl X => ?_)
  subst hl
  refine g_iload_n X 0 d_D_isSelected_0 rfl rfl ?_
  obtain rfl | rfl | rfl | rfl | rfl : h = 0 ∨ h = 1 ∨ h = 2 ∨ h = 3 ∨ h = 4 := by omega
  · refine g_tin X (off := 31) 32 d_D_isSelected_1 (by decide) (by decide) (by decide) (by decide) ?_
    refine g_lload_n X 3 d_D_isSelected_32 rfl rfl ?_
    refine g_lload X d_D_isSelected_33 rfl ?_
    refine g_lcmp X d_D_isSelected_35 ?_
    refine g_if_ge X 43 d_D_isSelected_36 (by decide) (fun hc => ?_) (fun hc => ?_)
    · have h2 := Int64.not_lt.mpr ((lg_cmp_ge _ _).mp hc)
      refine g_iconst X (v := 0) d_D_isSelected_43 (by decide) ?_
      exact g_zret X KOk.p (by decide) d_D_isSelected_44 ⟨by simp [seB, b2, h2], rfl⟩
    · have h2 := Int64.not_le.mp (fun q => hc ((lg_cmp_ge _ _).mpr q))
      refine g_iconst X (v := 1) d_D_isSelected_39 (by decide) ?_
      refine g_goto X 44 d_D_isSelected_40 (by decide) ?_
      exact g_zret X KOk.p (by decide) d_D_isSelected_44 ⟨by simp [seB, b2, h2], rfl⟩
  · refine g_tin X (off := 44) 45 d_D_isSelected_1 (by decide) (by decide) (by decide) (by decide) ?_
    refine g_lload_n X 3 d_D_isSelected_45 rfl rfl ?_
    refine g_lload X d_D_isSelected_46 rfl ?_
    refine g_lcmp X d_D_isSelected_48 ?_
    refine g_if_le X 56 d_D_isSelected_49 (by decide) (fun hc => ?_) (fun hc => ?_)
    · have h2 := Int64.not_lt.mpr ((lg_cmp_le _ _).mp hc)
      refine g_iconst X (v := 0) d_D_isSelected_56 (by decide) ?_
      exact g_zret X KOk.p (by decide) d_D_isSelected_57 ⟨by simp [seB, b2, h2], rfl⟩
    · have h2 := Int64.not_le.mp (fun q => hc ((lg_cmp_le _ _).mpr q))
      refine g_iconst X (v := 1) d_D_isSelected_52 (by decide) ?_
      refine g_goto X 57 d_D_isSelected_53 (by decide) ?_
      exact g_zret X KOk.p (by decide) d_D_isSelected_57 ⟨by simp [seB, b2, h2], rfl⟩
  · refine g_tin X (off := 57) 58 d_D_isSelected_1 (by decide) (by decide) (by decide) (by decide) ?_
    refine g_iload_n X 1 d_D_isSelected_58 rfl rfl ?_
    refine g_iload_n X 2 d_D_isSelected_59 rfl rfl ?_
    refine g_icmp_ge X 67 d_D_isSelected_60 (by decide) (fun hc => ?_) (fun hc => ?_)
    · have h2 : ¬ i < j := fun q => nI_ge q (by omega) hc
      refine g_iconst X (v := 0) d_D_isSelected_67 (by decide) ?_
      exact g_zret X KOk.p (by decide) d_D_isSelected_68 ⟨by simp [seB, b2, h2], rfl⟩
    · have h2 : i < j := Nat.not_le.mp (fun q => hc (nI_le q (by omega)))
      refine g_iconst X (v := 1) d_D_isSelected_63 (by decide) ?_
      refine g_goto X 68 d_D_isSelected_64 (by decide) ?_
      exact g_zret X KOk.p (by decide) d_D_isSelected_68 ⟨by simp [seB, b2, h2], rfl⟩
  · refine g_tin X (off := 68) 69 d_D_isSelected_1 (by decide) (by decide) (by decide) (by decide) ?_
    refine g_iload_n X 1 d_D_isSelected_69 rfl rfl ?_
    refine g_iload_n X 2 d_D_isSelected_70 rfl rfl ?_
    refine g_icmp_le X 78 d_D_isSelected_71 (by decide) (fun hc => ?_) (fun hc => ?_)
    · have h2 : ¬ j < i := fun q => nI_ge q (by omega) hc
      refine g_iconst X (v := 0) d_D_isSelected_78 (by decide) ?_
      exact g_zret X KOk.p (by decide) d_D_isSelected_79 ⟨by simp [seB, b2, h2], rfl⟩
    · have h2 : j < i := Nat.not_le.mp (fun q => hc (nI_le q (by omega)))
      refine g_iconst X (v := 1) d_D_isSelected_74 (by decide) ?_
      refine g_goto X 79 d_D_isSelected_75 (by decide) ?_
      exact g_zret X KOk.p (by decide) d_D_isSelected_79 ⟨by simp [seB, b2, h2], rfl⟩
  · refine g_tout X 80 d_D_isSelected_1 (by decide) (by decide) ?_
    refine g_iload_n X 1 d_D_isSelected_80 rfl rfl ?_
    refine g_iload_n X 2 d_D_isSelected_81 rfl rfl ?_
    refine g_icmp_ne X 89 d_D_isSelected_82 (by decide) (fun hc => ?_) (fun hc => ?_)
    · have h2 : ¬ i = j := fun q => hc (by rw [q])
      refine g_iconst X (v := 0) d_D_isSelected_89 (by decide) ?_
      exact g_zret X KOk.p (by decide) d_D_isSelected_90 ⟨by simp [seB, b2, h2], rfl⟩
    · have h2 : i = j := (nI_eq (by omega) (by omega)).mp hc
      refine g_iconst X (v := 1) d_D_isSelected_85 (by decide) ?_
      refine g_goto X 90 d_D_isSelected_86 (by decide) ?_
      exact g_zret X KOk.p (by decide) d_D_isSelected_90 ⟨by simp [seB, b2, h2], rfl⟩
end RB
end
section
section GA
variable {κ : KX} {own : String} {cc : ByteArray} {nL : Nat} {rt : Option FieldType} {δ : EX} {rm : Room} {A0 : Nat → Prop} {ws ws' : va_W} {lv : List (Nat × Value)} {pc idx : Nat} {P' : OC → va_W → Prop} {y : MethodName} {rm2 : Room} {av : List Value} {cc2 : ByteArray} {nL2 : Nat} {rt2 : Option FieldType} {rest stk : List Value} {b : Nat} {v : Option Value}
theorem g_VN1 (X : XO κ own cc nL rt δ rm A0 []) (w : VW own idx y (.code y cc2 nL2 rt2) av.length) {q0 ci N : Nat} {fs : List Value} {T0 : u_T} (he : ws[q0]? = some (b, .inr (ci, fs))) (hc : vwCl[ci]? = some (y.cls, T0, N)) (hC : CTN (xl κ) y (.code y cc2 nL2 rt2) rm2 δ A0 ws (.ref b :: av) v ws') (hd : decode cc pc = .ok (.invokevirtual idx, 3)) (hst : stk = av.reverse ++ .ref b :: rest) (hrm : RmOk rm rm2 nL2 0 0 rest)
    (n : G κ nL δ (Kn κ A0) (Qe κ δ A0 P') 0 0 ws' lv (v.toList ++ rest) (pc + 3)) : G κ nL δ (Kn κ A0) (Qe κ δ A0 P') 0 0 ws lv stk pc :=
  g_VN X w he hc hC hd hst hrm (fun v' w' h => by obtain ⟨h1, rfl⟩ := h; cases h1; exact n) (fun z w h => by cases h.1)
theorem g_SN1 (X : XO κ own cc nL rt δ rm A0 []) (w : SW own idx y (.code y cc2 nL2 rt2) av.length) (hC : CTN (xl κ) y (.code y cc2 nL2 rt2) rm2 δ A0 ws av v ws') (hd : decode cc pc = .ok (.invokestatic idx, 3)) (hst : stk = av.reverse ++ rest) (hrm : RmOk rm rm2 nL2 0 0 rest)
    (n : G κ nL δ (Kn κ A0) (Qe κ δ A0 P') 0 0 ws' lv (v.toList ++ rest) (pc + 3)) : G κ nL δ (Kn κ A0) (Qe κ δ A0 P') 0 0 ws lv stk pc :=
  g_SN X w hC hd hst hrm (fun v' w' h => by obtain ⟨h1, rfl⟩ := h; cases h1; exact n) (fun z w h => by cases h.1)
/-- the spare matrix worked on: it becomes S, or a number was out of range -/
def PO (δ : EX) (ad : Nat → Nat) (M : DS) (o : Option Mx) : OC → va_W → Prop := fun r w => (∃ S, o = some S ∧ r = .inr none ∧ w = dl δ ad (va_up M 6 S)) ∨ (o = none ∧ r = .inl 4 ∧ ∃ S, w = dl δ ad (va_up M 6 S))
theorem up_id {α : Type} (f : Nat → α) (k : Nat) : va_up f k (f k) = f := by
  funext j
  unfold va_up
  split
  · rename_i h; rw [h]
  · rfl
theorem b2_t {b : Bool} (h : ¬ b2 b = 0) : b = true := by
  cases b
  · exact absurd (by decide) h
  · rfl
theorem va_up6 {M : DS} {S : Mx} {a : Nat} (h : a < 6) : va_up M 6 S a = M a := va_up_n _ (by omega)
/-- a call of a method that works on the spare matrix -/
theorem g_SPO (X : XO κ own cc nL rt δ rm A0 []) {ad : Nat → Nat} {M : DS} {S : Mx} {o : Option Mx} (w : SW own idx y (.code y cc2 nL2 rt2) av.length) (hC : CT (xl κ) y (.code y cc2 nL2 rt2) rm2 δ A0 (dl δ ad (va_up M 6 S)) av (PO δ ad (va_up M 6 S) o)) (hd : decode cc pc = .ok (.invokestatic idx, 3)) (hst : stk = av.reverse ++ rest) (hrm : RmOk rm rm2 nL2 0 0 rest)
    (n : ∀ S', o = some S' → G κ nL δ (Kn κ A0) (Qe κ δ A0 P') 0 0 (dl δ ad (va_up M 6 S')) lv rest (pc + 3)) (kt : o = none → ∀ S', P' (.inl 4) (dl δ ad (va_up M 6 S'))) : G κ nL δ (Kn κ A0) (Qe κ δ A0 P') 0 0 (dl δ ad (va_up M 6 S)) lv stk pc :=
  g_SN X w hC hd hst hrm (fun v' w' h => by
    rcases h with ⟨S', h1, h2, h3⟩ | ⟨-, h2, -⟩
    · cases h2
      rw [bx_uu] at h3
      subst h3
      exact n S' h1
    · cases h2) (fun z w h => by
    rcases h with ⟨S', -, h2, -⟩ | ⟨h1, h2, S', h3⟩
    · cases h2
    · cases h2
      rw [bx_uu] at h3
      subst h3
      exact kt h1 S')
set_option maxHeartbeats 4000000 in
set_option maxRecDepth 100000 in
theorem c_D_gather {l : Launch} (htr : l.stackTraces = false) {δ : EX} {ad : Nat → Nat} {M : DS} (hinj : Inj ad) {i j k : Nat} {v : Int64} (hi : i < 8) (hj : j < 8) (hk : k < 4) : CT l y_D_gather cw_D_gather (RM 3) δ (Ar ad) (dl δ ad M) [.ref (mq ad 6), .int (nI i), .int (nI j), .long v, .int (nI k)] (PO δ ad M (gaS k (M 6) (8 * i + j) v)) := by
  refine CT.ofN (lv := [(0, .ref (mq ad 6)), (1, .int (nI i)), (2, .int (nI j)), (3, .long v), (5, .int (nI k))]) (Or.inl ⟨rfl, rfl⟩) (by decide) htr rfl (Nat.le_of_ble_eq_true rfl) (fun κ hl X => ?_)
  subst hl
  refine g_aload_n X 0 d_D_gather_0 rfl rfl ?_
  refine g_iload_n X 1 d_D_gather_1 rfl rfl ?_
  refine g_iload_n X 2 d_D_gather_2 rfl rfl ?_
  refine g_aload_n X 0 d_D_gather_3 rfl rfl ?_
  refine g_iload_n X 1 d_D_gather_4 rfl rfl ?_
  refine g_iload_n X 2 d_D_gather_5 rfl rfl ?_
  refine g_VP X KOk.n v_D_43 (dl_m (by omega)) rfl (c_M_has htr (by omega) hi hj) d_D_gather_6 rfl ⟨Nat.le_of_ble_eq_true rfl, Nat.le_of_ble_eq_true rfl, Nat.le_of_ble_eq_true rfl, Nat.le_of_ble_eq_true rfl⟩ ?_
  refine g_if_eq X 27 d_D_gather_9 (by decide) (fun hc => ?_) (fun hc => ?_)
  · have h := b2_0.mp hc
    refine g_lload_n X 3 d_D_gather_27 rfl rfl ?_
    refine g_VN1 X v_D_39 (dl_m (by omega)) rfl (c_M_enter htr hinj (by omega) hi hj) d_D_gather_28 rfl ⟨Nat.le_of_ble_eq_true rfl, Nat.le_of_ble_eq_true rfl, Nat.le_of_ble_eq_true rfl, Nat.le_of_ble_eq_true rfl⟩ ?_
    exact g_vret X KOk.n d_D_gather_31 (Or.inl ⟨_, by simp [gaS, h], rfl, rfl⟩)
  · have h := b2_t hc
    refine g_iload X d_D_gather_12 rfl ?_
    refine g_aload_n X 0 d_D_gather_14 rfl rfl ?_
    refine g_iload_n X 1 d_D_gather_15 rfl rfl ?_
    refine g_iload_n X 2 d_D_gather_16 rfl rfl ?_
    refine g_VP X KOk.n v_D_54 (dl_m (by omega)) rfl (c_M_value htr (by omega) hi hj) d_D_gather_17 rfl ⟨Nat.le_of_ble_eq_true rfl, Nat.le_of_ble_eq_true rfl, Nat.le_of_ble_eq_true rfl, Nat.le_of_ble_eq_true rfl⟩ ?_
    refine g_lload_n X 3 d_D_gather_20 rfl rfl ?_
    have hC := c_D_sumOver htr (δ := δ) (ad := ad) (M := M) (x := mVal (M 6) (8 * i + j)) (y := v) hk
    cases hv : suS k (mVal (M 6) (8 * i + j)) v with
    | none =>
      rw [hv] at hC
      exact g_ST X KOk.n s_D_146 (hC) d_D_gather_21 rfl ⟨Nat.le_of_ble_eq_true rfl, Nat.le_of_ble_eq_true rfl, Nat.le_of_ble_eq_true rfl, Nat.le_of_ble_eq_true rfl⟩ (Or.inr ⟨by simp [gaS, h, hv], rfl, M 6, by rw [up_id]⟩)
    | some z =>
      rw [hv] at hC
      refine g_SP X KOk.n s_D_146 (hC) d_D_gather_21 rfl ⟨Nat.le_of_ble_eq_true rfl, Nat.le_of_ble_eq_true rfl, Nat.le_of_ble_eq_true rfl, Nat.le_of_ble_eq_true rfl⟩ ?_
      refine g_goto X 28 d_D_gather_24 (by decide) ?_
      refine g_VN1 X v_D_39 (dl_m (by omega)) rfl (c_M_enter htr hinj (by omega) hi hj) d_D_gather_28 rfl ⟨Nat.le_of_ble_eq_true rfl, Nat.le_of_ble_eq_true rfl, Nat.le_of_ble_eq_true rfl, Nat.le_of_ble_eq_true rfl⟩ ?_
      exact g_vret X KOk.n d_D_gather_31 (Or.inl ⟨_, by simp [gaS, h, hv], rfl, rfl⟩)
set_option maxHeartbeats 4000000 in
set_option maxRecDepth 100000 in
theorem l_D_gp {κ : KX} {δ : EX} {ad : Nat → Nat} (X : XO κ R_D b_D_gatherProducts 7 none δ (RM 4) (Ar ad) []) (htr : (xl κ).stackTraces = false) (hinj : Inj ad) {M : DS} {a b i j k : Nat} (ha : a < 6) (hb : b < 6) (hi : i < 8) (hj : j < 8) (hk : k < 4) (h8 : (M a).2.1 ≤ 8) : ∀ n t S, t + n = (M a).2.1 → G κ 7 δ (Kn κ (Ar ad)) (Qe κ δ (Ar ad) (PO δ ad M (fo (gpS k (M a) (M b) i j) t n S))) 0 0 (dl δ ad (va_up M 6 S)) [(6, .int (nI t)), (0, .ref (mq ad 6)), (1, .ref (mq ad a)), (2, .ref (mq ad b)), (3, .int (nI i)), (4, .int (nI j)), (5, .int (nI k))] [] 3 := by
  intro n
  induction n with
  | zero =>
    intro t S ht
    refine g_iload X d_D_gatherProducts_3 rfl ?_
    refine g_aload_n X 1 d_D_gatherProducts_5 rfl rfl ?_
    refine r_cols X kf_D_62 d_D_gatherProducts_6 (by omega) ?_
    rw [va_up6 ha]
    refine g_icmp_ge X 68 d_D_gatherProducts_9 (by decide) (fun hc => ?_) (fun hc => ?_)
    · exact g_vret X KOk.n d_D_gatherProducts_68 (Or.inl ⟨S, rfl, rfl, rfl⟩)
    · exact absurd (nI_le (by omega) (by omega)) hc
  | succ n ih =>
    intro t S ht
    refine g_iload X d_D_gatherProducts_3 rfl ?_
    refine g_aload_n X 1 d_D_gatherProducts_5 rfl rfl ?_
    refine r_cols X kf_D_62 d_D_gatherProducts_6 (by omega) ?_
    rw [va_up6 ha]
    refine g_icmp_ge X 68 d_D_gatherProducts_9 (by decide) (fun hc => ?_) (fun hc => ?_)
    · exact absurd hc (nI_ge (by omega) (by omega))
    · clear hc
      refine g_aload_n X 1 d_D_gatherProducts_12 rfl rfl ?_
      refine g_iload_n X 3 d_D_gatherProducts_13 rfl rfl ?_
      refine g_iload X d_D_gatherProducts_14 rfl ?_
      refine g_VP X KOk.n v_D_43 (dl_m (by omega)) rfl (c_M_has htr (by omega) hi (by omega)) d_D_gatherProducts_16 rfl ⟨Nat.le_of_ble_eq_true rfl, Nat.le_of_ble_eq_true rfl, Nat.le_of_ble_eq_true rfl, Nat.le_of_ble_eq_true rfl⟩ ?_
      rw [va_up6 ha]
      refine g_if_eq X 62 d_D_gatherProducts_19 (by decide) (fun hc => ?_) (fun hc => ?_)
      · have h := b2_0.mp hc
        have e : gpS k (M a) (M b) i j t S = some S := by simp [gpS, h]
        rw [fo_s e]
        refine g_iinc X d_D_gatherProducts_62 rfl (nI_1 _) (by decide) ?_
        refine g_goto X 3 d_D_gatherProducts_65 (by decide) ?_
        exact g_sb (ih (t + 1) S (by omega)) ⟨rfl, rfl, rfl, rfl, rfl, rfl, rfl, trivial⟩
      · have h := b2_t hc
        refine g_aload_n X 2 d_D_gatherProducts_22 rfl rfl ?_
        refine g_iload X d_D_gatherProducts_23 rfl ?_
        refine g_iload X d_D_gatherProducts_25 rfl ?_
        refine g_VP X KOk.n v_D_43 (dl_m (by omega)) rfl (c_M_has htr (by omega) (by omega) hj) d_D_gatherProducts_27 rfl ⟨Nat.le_of_ble_eq_true rfl, Nat.le_of_ble_eq_true rfl, Nat.le_of_ble_eq_true rfl, Nat.le_of_ble_eq_true rfl⟩ ?_
        rw [va_up6 hb]
        refine g_if_eq X 62 d_D_gatherProducts_30 (by decide) (fun hd => ?_) (fun hd => ?_)
        · have h2 := b2_0.mp hd
          have e : gpS k (M a) (M b) i j t S = some S := by simp [gpS, h2]
          rw [fo_s e]
          refine g_iinc X d_D_gatherProducts_62 rfl (nI_1 _) (by decide) ?_
          refine g_goto X 3 d_D_gatherProducts_65 (by decide) ?_
          exact g_sb (ih (t + 1) S (by omega)) ⟨rfl, rfl, rfl, rfl, rfl, rfl, rfl, trivial⟩
        · have h2 := b2_t hd
          refine g_aload_n X 0 d_D_gatherProducts_33 rfl rfl ?_
          refine g_iload_n X 3 d_D_gatherProducts_34 rfl rfl ?_
          refine g_iload X d_D_gatherProducts_35 rfl ?_
          refine g_iload X d_D_gatherProducts_37 rfl ?_
          refine g_aload_n X 1 d_D_gatherProducts_39 rfl rfl ?_
          refine g_iload_n X 3 d_D_gatherProducts_40 rfl rfl ?_
          refine g_iload X d_D_gatherProducts_41 rfl ?_
          refine g_VP X KOk.n v_D_54 (dl_m (by omega)) rfl (c_M_value htr (by omega) hi (by omega)) d_D_gatherProducts_43 rfl ⟨Nat.le_of_ble_eq_true rfl, Nat.le_of_ble_eq_true rfl, Nat.le_of_ble_eq_true rfl, Nat.le_of_ble_eq_true rfl⟩ ?_
          rw [va_up6 ha]
          refine g_aload_n X 2 d_D_gatherProducts_46 rfl rfl ?_
          refine g_iload X d_D_gatherProducts_47 rfl ?_
          refine g_iload X d_D_gatherProducts_49 rfl ?_
          refine g_VP X KOk.n v_D_54 (dl_m (by omega)) rfl (c_M_value htr (by omega) (by omega) hj) d_D_gatherProducts_51 rfl ⟨Nat.le_of_ble_eq_true rfl, Nat.le_of_ble_eq_true rfl, Nat.le_of_ble_eq_true rfl, Nat.le_of_ble_eq_true rfl⟩ ?_
          rw [va_up6 hb]
          have hC := c_D_productOver htr (δ := δ) (ad := ad) (M := va_up M 6 S) (x := mVal (M a) (8 * i + t)) (y := mVal (M b) (8 * t + j)) hk
          cases hv : prS k (mVal (M a) (8 * i + t)) (mVal (M b) (8 * t + j)) with
          | none =>
            rw [hv] at hC
            have e : gpS k (M a) (M b) i j t S = none := by simp [gpS, h, h2, hv]
            exact g_ST X KOk.n s_D_108 (hC) d_D_gatherProducts_54 rfl ⟨Nat.le_of_ble_eq_true rfl, Nat.le_of_ble_eq_true rfl, Nat.le_of_ble_eq_true rfl, Nat.le_of_ble_eq_true rfl⟩ (Or.inr ⟨fo_n e, rfl, S, rfl⟩)
          | some z =>
            rw [hv] at hC
            have e : gpS k (M a) (M b) i j t S = gaS k S (8 * i + j) z := by simp [gpS, h, h2, hv]
            refine g_SP X KOk.n s_D_108 (hC) d_D_gatherProducts_54 rfl ⟨Nat.le_of_ble_eq_true rfl, Nat.le_of_ble_eq_true rfl, Nat.le_of_ble_eq_true rfl, Nat.le_of_ble_eq_true rfl⟩ ?_
            refine g_iload X d_D_gatherProducts_57 rfl ?_
            refine g_SPO X s_D_119 (c_D_gather htr hinj hi hj hk) d_D_gatherProducts_59 rfl ⟨Nat.le_of_ble_eq_true rfl, Nat.le_of_ble_eq_true rfl, Nat.le_of_ble_eq_true rfl, Nat.le_of_ble_eq_true rfl⟩ (fun S' hS => ?_) (fun hS S' => ?_)
            · rw [va_up_s] at hS
              rw [fo_s (e.trans hS)]
              refine g_iinc X d_D_gatherProducts_62 rfl (nI_1 _) (by decide) ?_
              refine g_goto X 3 d_D_gatherProducts_65 (by decide) ?_
              exact g_sb (ih (t + 1) S' (by omega)) ⟨rfl, rfl, rfl, rfl, rfl, rfl, rfl, trivial⟩
            · rw [va_up_s] at hS
              exact Or.inr ⟨fo_n (e.trans hS), rfl, S', rfl⟩
set_option maxHeartbeats 4000000 in
set_option maxRecDepth 100000 in
theorem c_D_gp {l : Launch} (htr : l.stackTraces = false) {δ : EX} {ad : Nat → Nat} {M : DS} (hinj : Inj ad) {a b i j k : Nat} (ha : a < 6) (hb : b < 6) (hi : i < 8) (hj : j < 8) (hk : k < 4) (h8 : (M a).2.1 ≤ 8) : CT l y_D_gatherProducts cw_D_gatherProducts (RM 4) δ (Ar ad) (dl δ ad M) [.ref (mq ad 6), .ref (mq ad a), .ref (mq ad b), .int (nI i), .int (nI j), .int (nI k)] (PO δ ad M (fo (gpS k (M a) (M b) i j) 0 (M a).2.1 (M 6))) := by
  refine CT.ofN (lv := [(0, .ref (mq ad 6)), (1, .ref (mq ad a)), (2, .ref (mq ad b)), (3, .int (nI i)), (4, .int (nI j)), (5, .int (nI k))]) (Or.inl ⟨rfl, rfl⟩) (by decide) htr rfl (Nat.le_of_ble_eq_true rfl) (fun κ hl X => ?_)
  subst hl
  refine g_iconst X (v := nI 0) d_D_gatherProducts_0 (by decide) ?_
  refine g_istore X d_D_gatherProducts_1 (by decide) ?_
  have e := l_D_gp X htr hinj ha hb hi hj hk h8 (M a).2.1 0 (M 6) (by omega)
  rw [up_id] at e
  exact g_sb e ⟨rfl, rfl, rfl, rfl, rfl, rfl, rfl, trivial⟩
end GA
end
section
section GB2
set_option maxHeartbeats 4000000 in
set_option maxRecDepth 100000 in
theorem l_D_gAj {κ : KX} {δ : EX} {ad : Nat → Nat} (X : XO κ R_D b_D_gatherAll 5 none δ (RM 4) (Ar ad) []) (htr : (xl κ).stackTraces = false) (hinj : Inj ad) {M : DS} {P' : OC → va_W → Prop} {a i k : Nat} (ha : a < 6) (hi : i < 8) (hk : k < 4) (h8 : (M a).2.1 ≤ 8) : ∀ n j S, j + n = (M a).2.1 → (∀ S', fo (gAj k (M a) i) j n S = some S' → G κ 5 δ (Kn κ (Ar ad)) (Qe κ δ (Ar ad) P') 0 0 (dl δ ad (va_up M 6 S')) [(0, .ref (mq ad 6)), (1, .ref (mq ad a)), (2, .int (nI k)), (3, .int (nI i))] [] 53) → (fo (gAj k (M a) i) j n S = none → ∀ S', P' (.inl 4) (dl δ ad (va_up M 6 S'))) → G κ 5 δ (Kn κ (Ar ad)) (Qe κ δ (Ar ad) P') 0 0 (dl δ ad (va_up M 6 S)) [(4, .int (nI j)), (0, .ref (mq ad 6)), (1, .ref (mq ad a)), (2, .int (nI k)), (3, .int (nI i))] [] 13 := by
  intro n
  induction n with
  | zero =>
    intro j S hj hx ht
    refine g_iload X d_D_gatherAll_13 rfl ?_
    refine g_aload_n X 1 d_D_gatherAll_15 rfl rfl ?_
    refine r_cols X kf_D_62 d_D_gatherAll_16 (by omega) ?_
    rw [va_up6 ha]
    refine g_icmp_ge X 53 d_D_gatherAll_19 (by decide) (fun hc => ?_) (fun hc => ?_)
    · exact g_sb (hx S rfl) ⟨rfl, rfl, rfl, rfl, trivial⟩
    · exact absurd (nI_le (by omega) (by omega)) hc
  | succ n ih =>
    intro j S hj hx ht
    refine g_iload X d_D_gatherAll_13 rfl ?_
    refine g_aload_n X 1 d_D_gatherAll_15 rfl rfl ?_
    refine r_cols X kf_D_62 d_D_gatherAll_16 (by omega) ?_
    rw [va_up6 ha]
    refine g_icmp_ge X 53 d_D_gatherAll_19 (by decide) (fun hc => ?_) (fun hc => ?_)
    · exact absurd hc (nI_ge (by omega) (by omega))
    · clear hc
      refine g_aload_n X 1 d_D_gatherAll_22 rfl rfl ?_
      refine g_iload_n X 3 d_D_gatherAll_23 rfl rfl ?_
      refine g_iload X d_D_gatherAll_24 rfl ?_
      refine g_VP X KOk.n v_D_43 (dl_m (by omega)) rfl (c_M_has htr (by omega) hi (by omega)) d_D_gatherAll_26 rfl ⟨Nat.le_of_ble_eq_true rfl, Nat.le_of_ble_eq_true rfl, Nat.le_of_ble_eq_true rfl, Nat.le_of_ble_eq_true rfl⟩ ?_
      rw [va_up6 ha]
      refine g_if_eq X 47 d_D_gatherAll_29 (by decide) (fun hc => ?_) (fun hc => ?_)
      · have h := b2_0.mp hc
        have e : (gAj k (M a) i) j S = some S := by simp [gAj, h]
        rw [fo_s e] at hx ht
        refine g_iinc X d_D_gatherAll_47 rfl (nI_1 _) (by decide) ?_
        refine g_goto X 13 d_D_gatherAll_50 (by decide) ?_
        exact g_sb (ih (j + 1) S (by omega) hx ht) ⟨rfl, rfl, rfl, rfl, rfl, trivial⟩
      · have h := b2_t hc
        refine g_aload_n X 0 d_D_gatherAll_32 rfl rfl ?_
        refine g_iload_n X 3 d_D_gatherAll_33 rfl rfl ?_
        refine g_iload X d_D_gatherAll_34 rfl ?_
        refine g_aload_n X 1 d_D_gatherAll_36 rfl rfl ?_
        refine g_iload_n X 3 d_D_gatherAll_37 rfl rfl ?_
        refine g_iload X d_D_gatherAll_38 rfl ?_
        refine g_VP X KOk.n v_D_54 (dl_m (by omega)) rfl (c_M_value htr (by omega) hi (by omega)) d_D_gatherAll_40 rfl ⟨Nat.le_of_ble_eq_true rfl, Nat.le_of_ble_eq_true rfl, Nat.le_of_ble_eq_true rfl, Nat.le_of_ble_eq_true rfl⟩ ?_
        rw [va_up6 ha]
        refine g_iload_n X 2 d_D_gatherAll_43 rfl rfl ?_
        have e : (gAj k (M a) i) j S = gaS k S (8 * i + j) (mVal (M a) (8 * i + j)) := by simp [gAj, h]
        refine g_SPO X s_D_119 (c_D_gather htr hinj hi (by omega) hk) d_D_gatherAll_44 rfl ⟨Nat.le_of_ble_eq_true rfl, Nat.le_of_ble_eq_true rfl, Nat.le_of_ble_eq_true rfl, Nat.le_of_ble_eq_true rfl⟩ (fun S' hS => ?_) (fun hS S' => ?_)
        · rw [va_up_s] at hS
          rw [fo_s (e.trans hS)] at hx ht
          refine g_iinc X d_D_gatherAll_47 rfl (nI_1 _) (by decide) ?_
          refine g_goto X 13 d_D_gatherAll_50 (by decide) ?_
          exact g_sb (ih (j + 1) S' (by omega) hx ht) ⟨rfl, rfl, rfl, rfl, rfl, trivial⟩
        · rw [va_up_s] at hS
          exact ht (fo_n (e.trans hS)) S'
set_option maxHeartbeats 4000000 in
set_option maxRecDepth 100000 in
theorem l_D_gAi {κ : KX} {δ : EX} {ad : Nat → Nat} (X : XO κ R_D b_D_gatherAll 5 none δ (RM 4) (Ar ad) []) (htr : (xl κ).stackTraces = false) (hinj : Inj ad) {M : DS} {a k : Nat} (ha : a < 6) (hk : k < 4) (h7 : (M a).1 ≤ 8) (h8 : (M a).2.1 ≤ 8) : ∀ n i S, i + n = (M a).1 → G κ 5 δ (Kn κ (Ar ad)) (Qe κ δ (Ar ad) (PO δ ad M (fo (gAi k (M a)) i n S))) 0 0 (dl δ ad (va_up M 6 S)) [(3, .int (nI i)), (0, .ref (mq ad 6)), (1, .ref (mq ad a)), (2, .int (nI k))] [] 2 := by
  intro n
  induction n with
  | zero =>
    intro i S hi
    refine g_iload_n X 3 d_D_gatherAll_2 rfl rfl ?_
    refine g_aload_n X 1 d_D_gatherAll_3 rfl rfl ?_
    refine r_rows X kf_D_58 d_D_gatherAll_4 (by omega) ?_
    rw [va_up6 ha]
    refine g_icmp_ge X 59 d_D_gatherAll_7 (by decide) (fun hc => ?_) (fun hc => ?_)
    · exact g_vret X KOk.n d_D_gatherAll_59 (Or.inl ⟨S, rfl, rfl, rfl⟩)
    · exact absurd (nI_le (by omega) (by omega)) hc
  | succ n ih =>
    intro i S hi
    refine g_iload_n X 3 d_D_gatherAll_2 rfl rfl ?_
    refine g_aload_n X 1 d_D_gatherAll_3 rfl rfl ?_
    refine r_rows X kf_D_58 d_D_gatherAll_4 (by omega) ?_
    rw [va_up6 ha]
    refine g_icmp_ge X 59 d_D_gatherAll_7 (by decide) (fun hc => ?_) (fun hc => ?_)
    · exact absurd hc (nI_ge (by omega) (by omega))
    · clear hc
      refine g_iconst X (v := nI 0) d_D_gatherAll_10 (by decide) ?_
      refine g_istore X d_D_gatherAll_11 (by decide) ?_
      refine g_sb (l_D_gAj X htr hinj ha (by omega) hk h8 (M a).2.1 0 S (by omega) (fun S' hS => ?_) (fun hS S' => ?_)) ⟨rfl, rfl, rfl, rfl, rfl, trivial⟩
      · rw [fo_s (f := gAi k (M a)) hS]
        refine g_iinc X d_D_gatherAll_53 rfl (nI_1 _) (by decide) ?_
        refine g_goto X 2 d_D_gatherAll_56 (by decide) ?_
        exact g_sb (ih (i + 1) S' (by omega)) ⟨rfl, rfl, rfl, rfl, trivial⟩
      · exact Or.inr ⟨fo_n (f := gAi k (M a)) hS, rfl, S', rfl⟩
set_option maxHeartbeats 4000000 in
set_option maxRecDepth 100000 in
theorem c_D_gA {l : Launch} (htr : l.stackTraces = false) {δ : EX} {ad : Nat → Nat} {M : DS} (hinj : Inj ad) {a k : Nat} (ha : a < 6) (hk : k < 4) (h7 : (M a).1 ≤ 8) (h8 : (M a).2.1 ≤ 8) : CT l y_D_gatherAll cw_D_gatherAll (RM 4) δ (Ar ad) (dl δ ad M) [.ref (mq ad 6), .ref (mq ad a), .int (nI k)] (PO δ ad M (gA k (M a) (M 6))) := by
  refine CT.ofN (lv := [(0, .ref (mq ad 6)), (1, .ref (mq ad a)), (2, .int (nI k))]) (Or.inl ⟨rfl, rfl⟩) (by decide) htr rfl (Nat.le_of_ble_eq_true rfl) (fun κ hl X => ?_)
  subst hl
  refine g_iconst X (v := nI 0) d_D_gatherAll_0 (by decide) ?_
  refine g_istore_n X 3 d_D_gatherAll_1 rfl (by decide) ?_
  have e := l_D_gAi X htr hinj ha hk h7 h8 (M a).1 0 (M 6) (by omega)
  rw [up_id] at e
  exact g_sb e ⟨rfl, rfl, rfl, rfl, trivial⟩
theorem fl_sh {f : Nat → Mx → Mx} (hf : ∀ i S, (f i S).1 = S.1 ∧ (f i S).2.1 = S.2.1) : ∀ n i S, (fl f i n S).1 = S.1 ∧ (fl f i n S).2.1 = S.2.1
  | 0, _, _ => ⟨rfl, rfl⟩
  | n + 1, i, S => by
    have h := fl_sh hf n (i + 1) (f i S)
    have h2 := hf i S
    exact ⟨h.1.trans h2.1, h.2.trans h2.2⟩
theorem dzj_sh (i j : Nat) (S : Mx) : (dzj i j S).1 = S.1 ∧ (dzj i j S).2.1 = S.2.1 := by
  unfold dzj
  split <;> exact ⟨rfl, rfl⟩
theorem dzi_sh (c i : Nat) (S : Mx) : (dzi c i S).1 = S.1 ∧ (dzi c i S).2.1 = S.2.1 := fl_sh (dzj_sh i) c 0 S
set_option maxHeartbeats 4000000 in
set_option maxRecDepth 100000 in
theorem l_D_dzj {κ : KX} {δ : EX} {ad : Nat → Nat} (X : XO κ R_D b_D_dropZeros 4 none δ (RM 1) (Ar ad) []) (htr : (xl κ).stackTraces = false) (hinj : Inj ad) {M : DS} {P' : OC → va_W → Prop} {i C : Nat} (hi : i < 8) (h8 : C ≤ 8) : ∀ n j S, j + n = C → S.2.1 = C → G κ 4 δ (Kn κ (Ar ad)) (Qe κ δ (Ar ad) P') 0 0 (dl δ ad (va_up M 6 (fl (dzj i) j n S))) [(0, .ref (mq ad 6)), (2, .int (nI i))] [] 62 → G κ 4 δ (Kn κ (Ar ad)) (Qe κ δ (Ar ad) P') 0 0 (dl δ ad (va_up M 6 S)) [(3, .int (nI j)), (0, .ref (mq ad 6)), (2, .int (nI i))] [] 22 := by
  intro n
  induction n with
  | zero =>
    intro j S hj hS hx
    refine g_iload_n X 3 d_D_dropZeros_22 rfl rfl ?_
    refine g_aload_n X 0 d_D_dropZeros_23 rfl rfl ?_
    refine r_cols X kf_D_62 d_D_dropZeros_24 (by omega) ?_
    rw [va_up_s, hS]
    refine g_icmp_ge X 62 d_D_dropZeros_27 (by decide) (fun hc => ?_) (fun hc => ?_)
    · exact g_sb hx ⟨rfl, rfl, trivial⟩
    · exact absurd (nI_le (by omega) (by omega)) hc
  | succ n ih =>
    intro j S hj hS hx
    refine g_iload_n X 3 d_D_dropZeros_22 rfl rfl ?_
    refine g_aload_n X 0 d_D_dropZeros_23 rfl rfl ?_
    refine r_cols X kf_D_62 d_D_dropZeros_24 (by omega) ?_
    rw [va_up_s, hS]
    refine g_icmp_ge X 62 d_D_dropZeros_27 (by decide) (fun hc => ?_) (fun hc => ?_)
    · exact absurd hc (nI_ge (by omega) (by omega))
    · clear hc
      have hs2 := (dzj_sh i j S).2.trans hS
      refine g_aload_n X 0 d_D_dropZeros_30 rfl rfl ?_
      refine g_iload_n X 2 d_D_dropZeros_31 rfl rfl ?_
      refine g_iload_n X 3 d_D_dropZeros_32 rfl rfl ?_
      refine g_VP X KOk.n v_D_43 (dl_m (by omega)) rfl (c_M_has htr (by omega) hi (by omega)) d_D_dropZeros_33 rfl ⟨Nat.le_of_ble_eq_true rfl, Nat.le_of_ble_eq_true rfl, Nat.le_of_ble_eq_true rfl, Nat.le_of_ble_eq_true rfl⟩ ?_
      rw [va_up_s]
      refine g_if_eq X 56 d_D_dropZeros_36 (by decide) (fun hc => ?_) (fun hc => ?_)
      · have h := b2_0.mp hc
        have e : dzj i j S = S := by simp [dzj, h]
        have hx' := hx
        simp only [fl, e] at hx'
        refine g_iinc X d_D_dropZeros_56 rfl (nI_1 _) (by decide) ?_
        refine g_goto X 22 d_D_dropZeros_59 (by decide) ?_
        exact g_sb (ih (j + 1) S (by omega) hS hx') ⟨rfl, rfl, rfl, trivial⟩
      · have h := b2_t hc
        refine g_aload_n X 0 d_D_dropZeros_39 rfl rfl ?_
        refine g_iload_n X 2 d_D_dropZeros_40 rfl rfl ?_
        refine g_iload_n X 3 d_D_dropZeros_41 rfl rfl ?_
        refine g_VP X KOk.n v_D_54 (dl_m (by omega)) rfl (c_M_value htr (by omega) hi (by omega)) d_D_dropZeros_42 rfl ⟨Nat.le_of_ble_eq_true rfl, Nat.le_of_ble_eq_true rfl, Nat.le_of_ble_eq_true rfl, Nat.le_of_ble_eq_true rfl⟩ ?_
        rw [va_up_s]
        refine g_lconst X (v := 0) d_D_dropZeros_45 (by decide) ?_
        refine g_lcmp X d_D_dropZeros_46 ?_
        refine g_if_ne X 56 d_D_dropZeros_47 (by decide) (fun hd => ?_) (fun hd => ?_)
        · have h2 : ¬ mVal S (8 * i + j) = 0 := fun q => hd ((lg_cmp_eq _ _).mpr q)
          have e : dzj i j S = S := by simp [dzj, h2]
          have hx' := hx
          simp only [fl, e] at hx'
          refine g_iinc X d_D_dropZeros_56 rfl (nI_1 _) (by decide) ?_
          refine g_goto X 22 d_D_dropZeros_59 (by decide) ?_
          exact g_sb (ih (j + 1) S (by omega) hS hx') ⟨rfl, rfl, rfl, trivial⟩
        · have h2 := (lg_cmp_eq _ _).mp hd
          have e : dzj i j S = mRem S (8 * i + j) := by simp [dzj, h, h2]
          rw [e] at hs2
          have hx' := hx
          simp only [fl, e] at hx'
          refine g_aload_n X 0 d_D_dropZeros_50 rfl rfl ?_
          refine g_iload_n X 2 d_D_dropZeros_51 rfl rfl ?_
          refine g_iload_n X 3 d_D_dropZeros_52 rfl rfl ?_
          refine g_VN1 X v_D_47 (dl_m (by omega)) rfl (c_M_remove htr hinj (by omega) hi (by omega)) d_D_dropZeros_53 rfl ⟨Nat.le_of_ble_eq_true rfl, Nat.le_of_ble_eq_true rfl, Nat.le_of_ble_eq_true rfl, Nat.le_of_ble_eq_true rfl⟩ ?_
          rw [va_up_s, bx_uu]
          refine g_iinc X d_D_dropZeros_56 rfl (nI_1 _) (by decide) ?_
          refine g_goto X 22 d_D_dropZeros_59 (by decide) ?_
          exact g_sb (ih (j + 1) (mRem S (8 * i + j)) (by omega) hs2 hx') ⟨rfl, rfl, rfl, trivial⟩
set_option maxHeartbeats 4000000 in
set_option maxRecDepth 100000 in
theorem l_D_dzi {κ : KX} {δ : EX} {ad : Nat → Nat} (X : XO κ R_D b_D_dropZeros 4 none δ (RM 1) (Ar ad) []) (htr : (xl κ).stackTraces = false) (hinj : Inj ad) {M : DS} {R C : Nat} (h7 : R ≤ 8) (h8 : C ≤ 8) : ∀ n i S, i + n = R → S.1 = R → S.2.1 = C → G κ 4 δ (Kn κ (Ar ad)) (Qe κ δ (Ar ad) (fun r w => r = .inr none ∧ w = dl δ ad (va_up M 6 (fl (dzi C) i n S)))) 0 0 (dl δ ad (va_up M 6 S)) [(2, .int (nI i)), (0, .ref (mq ad 6))] [] 12 := by
  intro n
  induction n with
  | zero =>
    intro i S hi h1 h2
    refine g_iload_n X 2 d_D_dropZeros_12 rfl rfl ?_
    refine g_aload_n X 0 d_D_dropZeros_13 rfl rfl ?_
    refine r_rows X kf_D_58 d_D_dropZeros_14 (by omega) ?_
    rw [va_up_s, h1]
    refine g_icmp_ge X 68 d_D_dropZeros_17 (by decide) (fun hc => ?_) (fun hc => ?_)
    · exact g_vret X KOk.n d_D_dropZeros_68 ⟨rfl, rfl⟩
    · exact absurd (nI_le (by omega) (by omega)) hc
  | succ n ih =>
    intro i S hi h1 h2
    refine g_iload_n X 2 d_D_dropZeros_12 rfl rfl ?_
    refine g_aload_n X 0 d_D_dropZeros_13 rfl rfl ?_
    refine r_rows X kf_D_58 d_D_dropZeros_14 (by omega) ?_
    rw [va_up_s, h1]
    refine g_icmp_ge X 68 d_D_dropZeros_17 (by decide) (fun hc => ?_) (fun hc => ?_)
    · exact absurd hc (nI_ge (by omega) (by omega))
    · clear hc
      refine g_iconst X (v := nI 0) d_D_dropZeros_20 (by decide) ?_
      refine g_istore_n X 3 d_D_dropZeros_21 rfl (by decide) ?_
      refine g_sb (l_D_dzj X htr hinj (by omega) h8 C 0 S (by omega) h2 ?_) ⟨rfl, rfl, rfl, trivial⟩
      refine g_iinc X d_D_dropZeros_62 rfl (nI_1 _) (by decide) ?_
      refine g_goto X 12 d_D_dropZeros_65 (by decide) ?_
      exact g_sb (ih (i + 1) (dzi C i S) (by omega) ((dzi_sh C i S).1.trans h1) ((dzi_sh C i S).2.trans h2)) ⟨rfl, rfl, trivial⟩
set_option maxHeartbeats 4000000 in
set_option maxRecDepth 100000 in
theorem c_D_dz {l : Launch} (htr : l.stackTraces = false) {δ : EX} {ad : Nat → Nat} {M : DS} (hinj : Inj ad) {k : Nat} (hk : k < 4) (h7 : (M 6).1 ≤ 8) (h8 : (M 6).2.1 ≤ 8) : CTN l y_D_dropZeros cw_D_dropZeros (RM 1) δ (Ar ad) (dl δ ad M) [.ref (mq ad 6), .int (nI k)] none (dl δ ad (va_up M 6 (dz k (M 6)))) := by
  refine CT.ofN (lv := [(0, .ref (mq ad 6)), (1, .int (nI k))]) (Or.inl ⟨rfl, rfl⟩) (by decide) htr rfl (Nat.le_of_ble_eq_true rfl) (fun κ hl X => ?_)
  subst hl
  refine g_iload_n X 1 d_D_dropZeros_0 rfl rfl ?_
  refine g_if_eq X 10 d_D_dropZeros_1 (by decide) (fun hc => ?_) (fun hc => ?_)
  · have hz : dz k (M 6) = fl (dzi (M 6).2.1) 0 (M 6).1 (M 6) := by
      have : k = 0 := (nI_eq (by omega) (by decide)).mp hc
      simp [dz, this]
    refine g_iconst X (v := nI 0) d_D_dropZeros_10 (by decide) ?_
    refine g_istore_n X 2 d_D_dropZeros_11 rfl (by decide) ?_
    have e := l_D_dzi X htr hinj h7 h8 (M 6).1 0 (M 6) (by omega) rfl rfl (M := M)
    rw [up_id] at e
    rw [hz]
    exact g_sb e ⟨rfl, rfl, trivial⟩
  · have h0 : ¬ k = 0 := fun q => hc (by rw [q]; rfl)
    refine g_iload_n X 1 d_D_dropZeros_4 rfl rfl ?_
    refine g_iconst X (v := nI 2) d_D_dropZeros_5 (by decide) ?_
    refine g_icmp_eq X 10 d_D_dropZeros_6 (by decide) (fun hd => ?_) (fun hd => ?_)
    · have hz : dz k (M 6) = fl (dzi (M 6).2.1) 0 (M 6).1 (M 6) := by
        have : k = 2 := (nI_eq (by omega) (by decide)).mp hd
        simp [dz, this]
      refine g_iconst X (v := nI 0) d_D_dropZeros_10 (by decide) ?_
      refine g_istore_n X 2 d_D_dropZeros_11 rfl (by decide) ?_
      have e := l_D_dzi X htr hinj h7 h8 (M 6).1 0 (M 6) (by omega) rfl rfl (M := M)
      rw [up_id] at e
      rw [hz]
      exact g_sb e ⟨rfl, rfl, trivial⟩
    · have h2 : ¬ k = 2 := fun q => hd (by rw [q])
      exact g_vret X KOk.n d_D_dropZeros_9 ⟨rfl, by simp [dz, h0, h2, up_id]⟩
set_option maxHeartbeats 4000000 in
set_option maxRecDepth 100000 in
theorem c_D_blank {l : Launch} (htr : l.stackTraces = false) {δ : EX} {ad : Nat → Nat} {M : DS} (hinj : Inj ad) {x y : Nat} : CTN l y_D_blank cw_D_blank (RM 1) δ (Ar ad) (dl δ ad M) [.ref (ad 0), .int (nI x), .int (nI y)] (some (.ref (mq ad 6))) (dl δ ad (va_up M 6 (mClear (M 6) x y))) := by
  refine CT.ofN (lv := [(0, .ref (ad 0)), (1, .int (nI x)), (2, .int (nI y))]) (Or.inl ⟨rfl, rfl⟩) (by decide) htr rfl (Nat.le_of_ble_eq_true rfl) (fun κ hl X => ?_)
  subst hl
  refine g_aload_n X 0 d_D_blank_0 rfl rfl ?_
  refine r_spare X d_D_blank_1 ?_
  refine g_iload_n X 1 d_D_blank_4 rfl rfl ?_
  refine g_iload_n X 2 d_D_blank_5 rfl rfl ?_
  refine g_VN1 X v_D_27 (dl_m (by omega)) rfl (c_M_clear htr hinj (by omega)) d_D_blank_6 rfl ⟨Nat.le_of_ble_eq_true rfl, Nat.le_of_ble_eq_true rfl, Nat.le_of_ble_eq_true rfl, Nat.le_of_ble_eq_true rfl⟩ ?_
  refine g_aload_n X 0 d_D_blank_9 rfl rfl ?_
  refine r_spare X d_D_blank_10 ?_
  exact g_aret X KOk.n d_D_blank_13 ⟨rfl, rfl⟩
end GB2
end
section
section GC3
variable {κ : KX} {own : String} {cc : ByteArray} {nL : Nat} {rt : Option FieldType} {δ : EX} {rm : Room} {A0 : Nat → Prop} {hh : List (Nat × Nat × Nat × Nat)} {K : Heap → List Loc → Prop} {Q : State → Prop} {cs sl : Nat} {ws : va_W} {lv : List (Nat × Value)} {st : List Value} {pc : Nat} {ad : Nat → Nat} {M : DS}
theorem g_wk {ws' : va_W} (h : ∀ H, va_P δ.1 vwCl ws H → va_P δ.1 vwCl ws' H) (n : G κ nL δ K Q cs sl ws' lv st pc) : G κ nL δ K Q cs sl ws lv st pc := fun H locs ls hl hP hK => n H locs ls hl (h H hP) hK
/-- the spare matrix and a register change places -/
def sw (to k : Nat) : Nat := if k = to then 6 else if k = 6 then to else k
def swB (to i : Nat) : Nat := if 2 ≤ i then 3 * sw to ((i - 2) / 3) + 2 + (i - 2) % 3 else i
theorem sw_lt {to k : Nat} (h : to < 6) (hk : k < 7) : sw to k < 7 := by
  unfold sw
  split
  · omega
  · split <;> omega
theorem sw_sw {to k : Nat} (h : to < 6) : sw to (sw to k) = k := by
  unfold sw
  by_cases h1 : k = to
  · subst h1
    have : ¬ 6 = k := by omega
    simp [this]
  · by_cases h2 : k = 6
    · subst h2
      simp [h1]
    · simp [h1, h2]
theorem swB_2 {to r c : Nat} (hc : c < 3) : swB to (3 * r + 2 + c) = 3 * sw to r + 2 + c := by
  have h1 : (3 * r + 2 + c - 2) / 3 = r := by omega
  have h2 : (3 * r + 2 + c - 2) % 3 = c := by omega
  have h3 : 2 ≤ 3 * r + 2 + c := by omega
  simp only [swB, h1, h2, h3, if_true]
theorem swB_lt {to i : Nat} (h : to < 6) (hi : i < 23) : swB to i < 23 := by
  by_cases h2 : 2 ≤ i
  · have e : i = 3 * ((i - 2) / 3) + 2 + (i - 2) % 3 := by omega
    rw [e, swB_2 (by omega)]
    have := sw_lt (to := to) (k := (i - 2) / 3) h (by omega)
    omega
  · simp only [swB, h2, if_false]; omega
theorem swB_swB {to i : Nat} (h : to < 6) : swB to (swB to i) = i := by
  by_cases h2 : 2 ≤ i
  · have e : i = 3 * ((i - 2) / 3) + 2 + (i - 2) % 3 := by omega
    rw [e, swB_2 (by omega), swB_2 (by omega), sw_sw h]
  · simp only [swB, h2, if_false]
theorem Inj_sw {to : Nat} (h : to < 6) (hi : Inj ad) : Inj (fun i => ad (swB to i)) := by
  intro i j h1 h2 h3
  have := hi _ _ (swB_lt h h1) (swB_lt h h2) h3
  have e := congrArg (swB to) this
  rw [swB_swB h, swB_swB h] at e
  exact e
theorem Ar_sw {to : Nat} (h : to < 6) : Ar (fun i => ad (swB to i)) = Ar ad := by
  funext q
  apply propext
  constructor
  · rintro ⟨i, h1, h2⟩
    exact ⟨swB to i, swB_lt h h1, h2⟩
  · rintro ⟨i, h1, h2⟩
    exact ⟨swB to i, swB_lt h h1, by show q = ad (swB to (swB to i)); rw [swB_swB h]; exact h2⟩
theorem mq_sw {to r : Nat} : mq (fun i => ad (swB to i)) r = mq ad (sw to r) := by
  unfold mq
  have := swB_2 (to := to) (r := r) (c := 0) (by omega)
  exact congrArg ad this
theorem vq_sw {to r : Nat} : vq (fun i => ad (swB to i)) r = vq ad (sw to r) := by
  unfold vq
  have := swB_2 (to := to) (r := r) (c := 1) (by omega)
  exact congrArg ad this
theorem fq_sw {to r : Nat} : fq (fun i => ad (swB to i)) r = fq ad (sw to r) := by
  unfold fq
  have := swB_2 (to := to) (r := r) (c := 2) (by omega)
  exact congrArg ad this
theorem df_sw {to i : Nat} (h : 2 ≤ i) : df δ (fun i => ad (swB to i)) (fun k => M (sw to k)) i = df δ ad M (swB to i) := by
  have e : i = 3 * ((i - 2) / 3) + 2 + (i - 2) % 3 := by omega
  generalize (i - 2) / 3 = r at e
  have hc : (i - 2) % 3 < 3 := by omega
  generalize (i - 2) % 3 = c at e hc
  subst e
  rw [swB_2 hc]
  obtain rfl | rfl | rfl : c = 0 ∨ c = 1 ∨ c = 2 := by omega
  · have e1 : 3 * r + 2 + 0 = 3 * r + 2 := rfl
    have e2 : 3 * sw to r + 2 + 0 = 3 * sw to r + 2 := rfl
    rw [e1, e2, df_m, df_m, vq_sw, fq_sw]
  · have e1 : 3 * r + 2 + 1 = 3 * r + 3 := rfl
    have e2 : 3 * sw to r + 2 + 1 = 3 * sw to r + 3 := rfl
    rw [e1, e2, df_v, df_v]
  · have e1 : 3 * r + 2 + 2 = 3 * r + 4 := rfl
    have e2 : 3 * sw to r + 2 + 2 = 3 * sw to r + 4 := rfl
    rw [e1, e2, df_f, df_f]
theorem keep_P {to : Nat} (h : to < 6) {H : Heap} (hP : va_P δ.1 vwCl (((dl δ ad M).set 0 (ad 0, .inr (0, [.ref (ad 1), .ref (mq ad to)]))).set 1 (ad 1, .inl (δ.2 3, 6, .inr (.inr (.inr (.inr (va_up (fun r => if r < 6 then some (mq ad r) else none) to (some (mq ad 6))))))))) H) :
    va_P δ.1 vwCl (dl δ (fun i => ad (swB to i)) (fun k => M (sw to k))) H := by
  intro i q hi
  have hl : i < 23 := by
    have := (List.getElem?_eq_some_iff.mp hi).1
    simpa [dl, wl] using this
  rw [show dl δ (fun i => ad (swB to i)) (fun k => M (sw to k)) = wl (fun i => ad (swB to i)) 23 (df δ (fun i => ad (swB to i)) (fun k => M (sw to k))) from rfl, wl_get hl] at hi
  cases hi
  refine hP (swB to i) _ ?_
  by_cases h2 : 2 ≤ i
  · have h3 : 2 ≤ swB to i := by
      have e : i = 3 * ((i - 2) / 3) + 2 + (i - 2) % 3 := by omega
      rw [e, swB_2 (by omega)]
      omega
    rw [List.getElem?_set_ne (by omega), List.getElem?_set_ne (by omega), df_sw h2]
    exact wl_get (swB_lt h hl)
  · obtain rfl | rfl : i = 0 ∨ i = 1 := by omega
    · have e : swB to 0 = 0 := rfl
      rw [e, List.getElem?_set_ne (by omega), List.getElem?_set_self (by simp [dl, wl])]
      have : mq (fun i => ad (swB to i)) 6 = mq ad to := by
        rw [mq_sw]
        have : ¬ 6 = to := by omega
        simp [sw, this]
      simp only [df, if_true, this]
      rfl
    · have e : swB to 1 = 1 := rfl
      rw [e, List.getElem?_set_self (by simp [dl, wl])]
      have hf : (fun r => if r < 6 then some (mq (fun i => ad (swB to i)) r) else none) = va_up (fun r => if r < 6 then some (mq ad r) else none) to (some (mq ad 6)) := by
        funext r
        rw [mq_sw]
        unfold va_up sw
        by_cases h1 : r = to
        · subst h1
          simp [h]
        · by_cases h6 : r < 6
          · have : ¬ r = 6 := by omega
            simp [h1, h6, this]
          · simp [h1, h6]
      simp only [df, hf]
      rfl
set_option maxHeartbeats 4000000 in
set_option maxRecDepth 100000 in
theorem c_D_keep {l : Launch} (htr : l.stackTraces = false) {δ : EX} {ad : Nat → Nat} {M : DS} (hinj : Inj ad) {to : Nat} (hto : to < 6) : CTN l y_D_keep cw_D_keep (RM 1) δ (Ar ad) (dl δ ad M) [.ref (ad 0), .int (nI to)] (some (.int (nI (cnt (M 6).2.2.2 64)))) (dl δ (fun i => ad (swB to i)) (fun k => M (sw to k))) := by
  refine CT.ofN (lv := [(0, .ref (ad 0)), (1, .int (nI to))]) (Or.inl ⟨rfl, rfl⟩) (by decide) htr rfl (Nat.le_of_ble_eq_true rfl) (fun κ hl X => ?_)
  subst hl
  refine g_aload_n X 0 d_D_keep_0 rfl rfl ?_
  refine r_spare X d_D_keep_1 ?_
  refine g_astore_n X 2 d_D_keep_4 rfl (by decide) ?_
  refine g_aload_n X 0 d_D_keep_5 rfl rfl ?_
  refine g_aload_n X 0 d_D_keep_6 rfl rfl ?_
  refine r_regs X d_D_keep_7 ?_
  refine g_iload_n X 1 d_D_keep_10 rfl rfl ?_
  refine r_aald X rfl (by omega) d_D_keep_11 ?_
  refine g_put X in_D rfl t_D_ok n_D (Ar_D hinj) dl_0 (k := 1) (ty := .object R_M) (by decide) rfl kf_D_16 rfl (by decide +kernel) rfl rfl (Nat.lt_of_lt_of_eq (by decide : _ < 2) rfl) d_D_keep_12 ?_
  refine g_aload_n X 0 d_D_keep_15 rfl rfl ?_
  refine g_get X in_D rfl (q0 := 0) (List.getElem?_set_self (by simp [dl, wl])) (k := 0) (by decide) rfl kf_D_11 rfl d_D_keep_16 ?_
  refine g_iload_n X 1 d_D_keep_19 rfl rfl ?_
  refine g_aload_n X 2 d_D_keep_20 rfl rfl ?_
  refine g_aast X (va_D.set (Ar_D hinj) dl_0) (q0 := 1) (qk := 20) (ci := 1) ((List.getElem?_set_ne (by decide)).trans dl_1) ((List.getElem?_set_ne (by decide)).trans (dl_m (r := 6) (by decide))) rfl rfl hto (by decide) d_D_keep_21 ?_
  refine g_wk (fun H hP => keep_P hto hP) ?_
  refine g_aload_n X 2 d_D_keep_22 rfl rfl ?_
  refine g_es (st' := [.ref (mq (fun i => ad (swB to i)) to)]) (by rw [mq_sw]; simp [sw]) ?_
  have hC := c_M_count htr (δ := δ) (ad := fun i => ad (swB to i)) (M := fun k => M (sw to k)) (r := to) (by omega)
  have e : sw to to = 6 := by simp [sw]
  simp only [e] at hC
  refine g_VP X KOk.n v_D_65 (dl_m (by omega)) rfl (hC) d_D_keep_23 rfl ⟨Nat.le_of_ble_eq_true rfl, Nat.le_of_ble_eq_true rfl, Nat.le_of_ble_eq_true rfl, Nat.le_of_ble_eq_true rfl⟩ ?_
  exact g_iret X KOk.n d_D_keep_26 ⟨rfl, rfl⟩
end GC3
end
section
section GD4
/-- levels: a neighbour j of i; the vertices of a level -/
def nbj (G : Mx) (i lev j : Nat) (S : Mx) : Mx := if mHas G (8 * i + j) = true ∧ mHas S (8 * 0 + j) = false then mEnter S (8 * 0 + j) (nI lev).toInt64 else S
def nlI (G : Mx) (lev i : Nat) (S : Mx) : Mx := if mHas S (8 * 0 + i) = true ∧ mVal S (8 * 0 + i) = (nI lev).toInt64 then fl (nbj G i (lev + 1)) 0 G.2.1 S else S
/-- paths: over a vertex -/
def shj (o i j : Nat) (S : Mx) : Option Mx := if mHas S (8 * i + o) = true ∧ mHas S (8 * o + j) = true then (prS 1 (mVal S (8 * i + o)) (mVal S (8 * o + j))).bind (gaS 1 S (8 * i + j)) else some S
def shi (c o i : Nat) (S : Mx) : Option Mx := fo (shj o i) 0 c S
/-- components: the lesser vertex goes over an entry -/
def spj (G : Mx) (i j : Nat) (S : Mx) : Mx := if mHas G (8 * i + j) = true then mEnter (mEnter S (8 * 0 + i) (miL (mVal S (8 * 0 + i)) (mVal S (8 * 0 + j)))) (8 * 0 + j) (miL (mVal S (8 * 0 + i)) (mVal S (8 * 0 + j))) else S
def spi (G : Mx) (i : Nat) (S : Mx) : Mx := fl (spj G i) 0 G.2.1 S
set_option maxHeartbeats 4000000 in
set_option maxRecDepth 100000 in
theorem l_D_nb {κ : KX} {δ : EX} {ad : Nat → Nat} (X : XO κ R_D b_D_enterNeighbours 5 none δ (RM 1) (Ar ad) []) (htr : (xl κ).stackTraces = false) (hinj : Inj ad) {M : DS} {a i lev : Nat} (ha : a < 6) (hi : i < 8) (h8 : (M a).2.1 ≤ 8) : ∀ n j S, j + n = (M a).2.1 → G κ 5 δ (Kn κ (Ar ad)) (Qe κ δ (Ar ad) (fun r w => r = .inr none ∧ w = dl δ ad (va_up M 6 (fl (nbj (M a) i lev) j n S)))) 0 0 (dl δ ad (va_up M 6 S)) [(4, .int (nI j)), (0, .ref (mq ad 6)), (1, .ref (mq ad a)), (2, .int (nI i)), (3, .int (nI lev))] [] 3 := by
  intro n
  induction n with
  | zero =>
    intro j S hj
    refine g_iload X d_D_enterNeighbours_3 rfl ?_
    refine g_aload_n X 1 d_D_enterNeighbours_5 rfl rfl ?_
    refine r_cols X kf_D_62 d_D_enterNeighbours_6 (by omega) ?_
    rw [va_up6 ha]
    refine g_icmp_ge X 47 d_D_enterNeighbours_9 (by decide) (fun hc => ?_) (fun hc => ?_)
    · exact g_vret X KOk.n d_D_enterNeighbours_47 ⟨rfl, rfl⟩
    · exact absurd (nI_le (by omega) (by omega)) hc
  | succ n ih =>
    intro j S hj
    refine g_iload X d_D_enterNeighbours_3 rfl ?_
    refine g_aload_n X 1 d_D_enterNeighbours_5 rfl rfl ?_
    refine r_cols X kf_D_62 d_D_enterNeighbours_6 (by omega) ?_
    rw [va_up6 ha]
    refine g_icmp_ge X 47 d_D_enterNeighbours_9 (by decide) (fun hc => ?_) (fun hc => ?_)
    · exact absurd hc (nI_ge (by omega) (by omega))
    · clear hc
      show G κ 5 δ (Kn κ (Ar ad)) (Qe κ δ (Ar ad) (fun r w => r = .inr none ∧ w = dl δ ad (va_up M 6 (fl (nbj (M a) i lev) (j + 1) n ((nbj (M a) i lev) j S))))) 0 0 (dl δ ad (va_up M 6 S)) [(4, .int (nI j)), (0, .ref (mq ad 6)), (1, .ref (mq ad a)), (2, .int (nI i)), (3, .int (nI lev))] [] _
      refine g_aload_n X 1 d_D_enterNeighbours_12 rfl rfl ?_
      refine g_iload_n X 2 d_D_enterNeighbours_13 rfl rfl ?_
      refine g_iload X d_D_enterNeighbours_14 rfl ?_
      refine g_VP X KOk.n v_D_43 (dl_m (by omega)) rfl (c_M_has htr (by omega) hi (by omega)) d_D_enterNeighbours_16 rfl ⟨Nat.le_of_ble_eq_true rfl, Nat.le_of_ble_eq_true rfl, Nat.le_of_ble_eq_true rfl, Nat.le_of_ble_eq_true rfl⟩ ?_
      rw [va_up6 ha]
      refine g_if_eq X 41 d_D_enterNeighbours_19 (by decide) (fun hc => ?_) (fun hc => ?_)
      · have h := b2_0.mp hc
        have e : (nbj (M a) i lev) j S = S := by simp [nbj, h]
        rw [e]
        refine g_iinc X d_D_enterNeighbours_41 rfl (nI_1 _) (by decide) ?_
        refine g_goto X 3 d_D_enterNeighbours_44 (by decide) ?_
        exact g_sb (ih (j + 1) S (by omega)) ⟨rfl, rfl, rfl, rfl, rfl, trivial⟩
      · have h := b2_t hc
        refine g_aload_n X 0 d_D_enterNeighbours_22 rfl rfl ?_
        refine g_iconst X (v := nI 0) d_D_enterNeighbours_23 (by decide) ?_
        refine g_iload X d_D_enterNeighbours_24 rfl ?_
        refine g_VP X KOk.n v_D_43 (dl_m (by omega)) rfl (c_M_has htr (by omega) (by omega) (by omega)) d_D_enterNeighbours_26 rfl ⟨Nat.le_of_ble_eq_true rfl, Nat.le_of_ble_eq_true rfl, Nat.le_of_ble_eq_true rfl, Nat.le_of_ble_eq_true rfl⟩ ?_
        rw [va_up_s]
        refine g_if_ne X 41 d_D_enterNeighbours_29 (by decide) (fun hd => ?_) (fun hd => ?_)
        · have h2 := b2_t hd
          have e : (nbj (M a) i lev) j S = S := by simp only [nbj]; rw [if_neg (fun q => by rw [h2] at q; exact absurd q.2 (by decide))]
          rw [e]
          refine g_iinc X d_D_enterNeighbours_41 rfl (nI_1 _) (by decide) ?_
          refine g_goto X 3 d_D_enterNeighbours_44 (by decide) ?_
          exact g_sb (ih (j + 1) S (by omega)) ⟨rfl, rfl, rfl, rfl, rfl, trivial⟩
        · have h2 := b2_0.mp hd
          have e : (nbj (M a) i lev) j S = mEnter S (8 * 0 + j) (nI lev).toInt64 := by simp only [nbj]; rw [if_pos ⟨h, h2⟩]
          rw [e]
          refine g_aload_n X 0 d_D_enterNeighbours_32 rfl rfl ?_
          refine g_iconst X (v := nI 0) d_D_enterNeighbours_33 (by decide) ?_
          refine g_iload X d_D_enterNeighbours_34 rfl ?_
          refine g_iload_n X 3 d_D_enterNeighbours_36 rfl rfl ?_
          refine g_i2l X d_D_enterNeighbours_37 ?_
          refine g_VN1 X v_D_39 (dl_m (by omega)) rfl (c_M_enter htr hinj (by omega) (by omega) (by omega)) d_D_enterNeighbours_38 rfl ⟨Nat.le_of_ble_eq_true rfl, Nat.le_of_ble_eq_true rfl, Nat.le_of_ble_eq_true rfl, Nat.le_of_ble_eq_true rfl⟩ ?_
          rw [va_up_s, bx_uu]
          refine g_iinc X d_D_enterNeighbours_41 rfl (nI_1 _) (by decide) ?_
          refine g_goto X 3 d_D_enterNeighbours_44 (by decide) ?_
          exact g_sb (ih (j + 1) (mEnter S (8 * 0 + j) (nI lev).toInt64) (by omega)) ⟨rfl, rfl, rfl, rfl, rfl, trivial⟩
set_option maxHeartbeats 4000000 in
set_option maxRecDepth 100000 in
theorem c_D_nb {l : Launch} (htr : l.stackTraces = false) {δ : EX} {ad : Nat → Nat} {M : DS} (hinj : Inj ad) {a i lev : Nat} (ha : a < 6) (hi : i < 8) (h8 : (M a).2.1 ≤ 8) : CTN l y_D_enterNeighbours cw_D_enterNeighbours (RM 1) δ (Ar ad) (dl δ ad M) [.ref (mq ad 6), .ref (mq ad a), .int (nI i), .int (nI lev)] none (dl δ ad (va_up M 6 (fl (nbj (M a) i lev) 0 (M a).2.1 (M 6)))) := by
  refine CT.ofN (lv := [(0, .ref (mq ad 6)), (1, .ref (mq ad a)), (2, .int (nI i)), (3, .int (nI lev))]) (Or.inl ⟨rfl, rfl⟩) (by decide) htr rfl (Nat.le_of_ble_eq_true rfl) (fun κ hl X => ?_)
  subst hl
  refine g_iconst X (v := nI 0) d_D_enterNeighbours_0 (by decide) ?_
  refine g_istore X d_D_enterNeighbours_1 (by decide) ?_
  have e := l_D_nb X htr hinj ha hi h8 (lev := lev) (M a).2.1 0 (M 6) (by omega)
  rw [up_id] at e
  exact g_sb e ⟨rfl, rfl, rfl, rfl, rfl, trivial⟩
set_option maxHeartbeats 4000000 in
set_option maxRecDepth 100000 in
theorem l_D_nl {κ : KX} {δ : EX} {ad : Nat → Nat} (X : XO κ R_D b_D_enterNextLevel 4 none δ (RM 2) (Ar ad) []) (htr : (xl κ).stackTraces = false) (hinj : Inj ad) {M : DS} {a lev : Nat} (ha : a < 6) (h7 : (M a).1 ≤ 8) (h8 : (M a).2.1 ≤ 8) : ∀ n i S, i + n = (M a).1 → G κ 4 δ (Kn κ (Ar ad)) (Qe κ δ (Ar ad) (fun r w => r = .inr none ∧ w = dl δ ad (va_up M 6 (fl (nlI (M a) lev) i n S)))) 0 0 (dl δ ad (va_up M 6 S)) [(3, .int (nI i)), (0, .ref (mq ad 6)), (1, .ref (mq ad a)), (2, .int (nI lev))] [] 2 := by
  intro n
  induction n with
  | zero =>
    intro i S hi
    refine g_iload_n X 3 d_D_enterNextLevel_2 rfl rfl ?_
    refine g_aload_n X 1 d_D_enterNextLevel_3 rfl rfl ?_
    refine r_rows X kf_D_58 d_D_enterNextLevel_4 (by omega) ?_
    rw [va_up6 ha]
    refine g_icmp_ge X 46 d_D_enterNextLevel_7 (by decide) (fun hc => ?_) (fun hc => ?_)
    · exact g_vret X KOk.n d_D_enterNextLevel_46 ⟨rfl, rfl⟩
    · exact absurd (nI_le (by omega) (by omega)) hc
  | succ n ih =>
    intro i S hi
    refine g_iload_n X 3 d_D_enterNextLevel_2 rfl rfl ?_
    refine g_aload_n X 1 d_D_enterNextLevel_3 rfl rfl ?_
    refine r_rows X kf_D_58 d_D_enterNextLevel_4 (by omega) ?_
    rw [va_up6 ha]
    refine g_icmp_ge X 46 d_D_enterNextLevel_7 (by decide) (fun hc => ?_) (fun hc => ?_)
    · exact absurd hc (nI_ge (by omega) (by omega))
    · clear hc
      show G κ 4 δ (Kn κ (Ar ad)) (Qe κ δ (Ar ad) (fun r w => r = .inr none ∧ w = dl δ ad (va_up M 6 (fl (nlI (M a) lev) (i + 1) n ((nlI (M a) lev) i S))))) 0 0 (dl δ ad (va_up M 6 S)) [(3, .int (nI i)), (0, .ref (mq ad 6)), (1, .ref (mq ad a)), (2, .int (nI lev))] [] _
      refine g_aload_n X 0 d_D_enterNextLevel_10 rfl rfl ?_
      refine g_iconst X (v := nI 0) d_D_enterNextLevel_11 (by decide) ?_
      refine g_iload_n X 3 d_D_enterNextLevel_12 rfl rfl ?_
      refine g_VP X KOk.n v_D_43 (dl_m (by omega)) rfl (c_M_has htr (by omega) (by omega) (by omega)) d_D_enterNextLevel_13 rfl ⟨Nat.le_of_ble_eq_true rfl, Nat.le_of_ble_eq_true rfl, Nat.le_of_ble_eq_true rfl, Nat.le_of_ble_eq_true rfl⟩ ?_
      rw [va_up_s]
      refine g_if_eq X 40 d_D_enterNextLevel_16 (by decide) (fun hc => ?_) (fun hc => ?_)
      · have h := b2_0.mp hc
        have e : (nlI (M a) lev) i S = S := by simp only [nlI]; rw [if_neg (fun q => by rw [h] at q; exact absurd q.1 (by decide))]
        rw [e]
        refine g_iinc X d_D_enterNextLevel_40 rfl (nI_1 _) (by decide) ?_
        refine g_goto X 2 d_D_enterNextLevel_43 (by decide) ?_
        exact g_sb (ih (i + 1) S (by omega)) ⟨rfl, rfl, rfl, rfl, trivial⟩
      · have h := b2_t hc
        refine g_aload_n X 0 d_D_enterNextLevel_19 rfl rfl ?_
        refine g_iconst X (v := nI 0) d_D_enterNextLevel_20 (by decide) ?_
        refine g_iload_n X 3 d_D_enterNextLevel_21 rfl rfl ?_
        refine g_VP X KOk.n v_D_54 (dl_m (by omega)) rfl (c_M_value htr (by omega) (by omega) (by omega)) d_D_enterNextLevel_22 rfl ⟨Nat.le_of_ble_eq_true rfl, Nat.le_of_ble_eq_true rfl, Nat.le_of_ble_eq_true rfl, Nat.le_of_ble_eq_true rfl⟩ ?_
        rw [va_up_s]
        refine g_iload_n X 2 d_D_enterNextLevel_25 rfl rfl ?_
        refine g_i2l X d_D_enterNextLevel_26 ?_
        refine g_lcmp X d_D_enterNextLevel_27 ?_
        refine g_if_ne X 40 d_D_enterNextLevel_28 (by decide) (fun hd => ?_) (fun hd => ?_)
        · have h2 : ¬ mVal S (8 * 0 + i) = (nI lev).toInt64 := fun q => hd ((lg_cmp_eq _ _).mpr q)
          have e : (nlI (M a) lev) i S = S := by simp only [nlI]; rw [if_neg (fun q => h2 q.2)]
          rw [e]
          refine g_iinc X d_D_enterNextLevel_40 rfl (nI_1 _) (by decide) ?_
          refine g_goto X 2 d_D_enterNextLevel_43 (by decide) ?_
          exact g_sb (ih (i + 1) S (by omega)) ⟨rfl, rfl, rfl, rfl, trivial⟩
        · have h2 := (lg_cmp_eq _ _).mp hd
          have e : (nlI (M a) lev) i S = fl (nbj (M a) i (lev + 1)) 0 (M a).2.1 S := by simp only [nlI]; rw [if_pos ⟨h, h2⟩]
          rw [e]
          refine g_aload_n X 0 d_D_enterNextLevel_31 rfl rfl ?_
          refine g_aload_n X 1 d_D_enterNextLevel_32 rfl rfl ?_
          refine g_iload_n X 3 d_D_enterNextLevel_33 rfl rfl ?_
          refine g_iload_n X 2 d_D_enterNextLevel_34 rfl rfl ?_
          refine g_iconst X (v := 1) d_D_enterNextLevel_35 (by decide) ?_
          refine g_iadd X d_D_enterNextLevel_36 ?_
          refine g_ei (nI_1 lev) ?_
          have hC := c_D_nb htr hinj (δ := δ) (M := va_up M 6 S) (a := a) (i := i) (lev := lev + 1) ha (by omega) (by rw [va_up6 ha]; exact h8)
          rw [va_up6 ha, va_up_s, bx_uu] at hC
          refine g_SN1 X s_D_183 (hC) d_D_enterNextLevel_37 rfl ⟨Nat.le_of_ble_eq_true rfl, Nat.le_of_ble_eq_true rfl, Nat.le_of_ble_eq_true rfl, Nat.le_of_ble_eq_true rfl⟩ ?_
          refine g_iinc X d_D_enterNextLevel_40 rfl (nI_1 _) (by decide) ?_
          refine g_goto X 2 d_D_enterNextLevel_43 (by decide) ?_
          exact g_sb (ih (i + 1) _ (by omega)) ⟨rfl, rfl, rfl, rfl, trivial⟩
set_option maxHeartbeats 4000000 in
set_option maxRecDepth 100000 in
theorem c_D_nl {l : Launch} (htr : l.stackTraces = false) {δ : EX} {ad : Nat → Nat} {M : DS} (hinj : Inj ad) {a lev : Nat} (ha : a < 6) (h7 : (M a).1 ≤ 8) (h8 : (M a).2.1 ≤ 8) : CTN l y_D_enterNextLevel cw_D_enterNextLevel (RM 2) δ (Ar ad) (dl δ ad M) [.ref (mq ad 6), .ref (mq ad a), .int (nI lev)] none (dl δ ad (va_up M 6 (fl (nlI (M a) lev) 0 (M a).1 (M 6)))) := by
  refine CT.ofN (lv := [(0, .ref (mq ad 6)), (1, .ref (mq ad a)), (2, .int (nI lev))]) (Or.inl ⟨rfl, rfl⟩) (by decide) htr rfl (Nat.le_of_ble_eq_true rfl) (fun κ hl X => ?_)
  subst hl
  refine g_iconst X (v := nI 0) d_D_enterNextLevel_0 (by decide) ?_
  refine g_istore_n X 3 d_D_enterNextLevel_1 rfl (by decide) ?_
  have e := l_D_nl X htr hinj ha h7 h8 (lev := lev) (M a).1 0 (M 6) (by omega)
  rw [up_id] at e
  exact g_sb e ⟨rfl, rfl, rfl, rfl, trivial⟩
theorem gaS_sh {k p : Nat} {S S' : Mx} {v : Int64} (h : gaS k S p v = some S') : S'.1 = S.1 ∧ S'.2.1 = S.2.1 := by
  unfold gaS at h
  split at h
  · cases hs : suS k (mVal S p) v with
    | none => rw [hs] at h; cases h
    | some z => rw [hs] at h; cases h; exact ⟨rfl, rfl⟩
  · cases h; exact ⟨rfl, rfl⟩
theorem shj_sh {o i j : Nat} {S S' : Mx} (h : shj o i j S = some S') : S'.1 = S.1 ∧ S'.2.1 = S.2.1 := by
  unfold shj at h
  split at h
  · cases hs : prS 1 (mVal S (8 * i + o)) (mVal S (8 * o + j)) with
    | none => rw [hs] at h; cases h
    | some z => rw [hs] at h; exact gaS_sh h
  · cases h; exact ⟨rfl, rfl⟩
theorem fo_sh {f : Nat → Mx → Option Mx} (hf : ∀ i S S', f i S = some S' → S'.1 = S.1 ∧ S'.2.1 = S.2.1) : ∀ n i S S', fo f i n S = some S' → S'.1 = S.1 ∧ S'.2.1 = S.2.1
  | 0, _, _, _, h => by cases h; exact ⟨rfl, rfl⟩
  | n + 1, i, S, S', h => by
    cases hs : f i S with
    | none => rw [fo_n hs] at h; cases h
    | some z =>
      rw [fo_s hs] at h
      have h1 := fo_sh hf n (i + 1) z S' h
      have h2 := hf i S z hs
      exact ⟨h1.1.trans h2.1, h1.2.trans h2.2⟩
set_option maxHeartbeats 4000000 in
set_option maxRecDepth 100000 in
theorem l_D_shj {κ : KX} {δ : EX} {ad : Nat → Nat} (X : XO κ R_D b_D_shortenOver 6 none δ (RM 4) (Ar ad) []) (htr : (xl κ).stackTraces = false) (hinj : Inj ad) {M : DS} {P' : OC → va_W → Prop} {o i C : Nat} (ho : o < 8) (hi : i < 8) (h8 : C ≤ 8) : ∀ n j S, j + n = C → S.2.1 = C → (∀ S', fo (shj o i) j n S = some S' → G κ 6 δ (Kn κ (Ar ad)) (Qe κ δ (Ar ad) P') 0 0 (dl δ ad (va_up M 6 S')) [(0, .ref (mq ad 6)), (1, .int (nI o)), (2, .int (nI i))] [] 71) → (fo (shj o i) j n S = none → ∀ S', P' (.inl 4) (dl δ ad (va_up M 6 S'))) → G κ 6 δ (Kn κ (Ar ad)) (Qe κ δ (Ar ad) P') 0 0 (dl δ ad (va_up M 6 S)) [(3, .int (nI j)), (0, .ref (mq ad 6)), (1, .int (nI o)), (2, .int (nI i))] [] 12 := by
  intro n
  induction n with
  | zero =>
    intro j S hj hs hx ht
    refine g_iload_n X 3 d_D_shortenOver_12 rfl rfl ?_
    refine g_aload_n X 0 d_D_shortenOver_13 rfl rfl ?_
    refine r_cols X kf_D_62 d_D_shortenOver_14 (by omega) ?_
    rw [va_up_s, hs]
    refine g_icmp_ge X 71 d_D_shortenOver_17 (by decide) (fun hc => ?_) (fun hc => ?_)
    · exact g_sb (hx S rfl) ⟨rfl, rfl, rfl, trivial⟩
    · exact absurd (nI_le (by omega) (by omega)) hc
  | succ n ih =>
    intro j S hj hs hx ht
    refine g_iload_n X 3 d_D_shortenOver_12 rfl rfl ?_
    refine g_aload_n X 0 d_D_shortenOver_13 rfl rfl ?_
    refine r_cols X kf_D_62 d_D_shortenOver_14 (by omega) ?_
    rw [va_up_s, hs]
    refine g_icmp_ge X 71 d_D_shortenOver_17 (by decide) (fun hc => ?_) (fun hc => ?_)
    · exact absurd hc (nI_ge (by omega) (by omega))
    · clear hc
      refine g_aload_n X 0 d_D_shortenOver_20 rfl rfl ?_
      refine g_iload_n X 2 d_D_shortenOver_21 rfl rfl ?_
      refine g_iload_n X 1 d_D_shortenOver_22 rfl rfl ?_
      refine g_VP X KOk.n v_D_43 (dl_m (by omega)) rfl (c_M_has htr (by omega) hi ho) d_D_shortenOver_23 rfl ⟨Nat.le_of_ble_eq_true rfl, Nat.le_of_ble_eq_true rfl, Nat.le_of_ble_eq_true rfl, Nat.le_of_ble_eq_true rfl⟩ ?_
      rw [va_up_s]
      refine g_if_eq X 65 d_D_shortenOver_26 (by decide) (fun hc => ?_) (fun hc => ?_)
      · have h := b2_0.mp hc
        have e : (shj o i) j S = some S := by simp [shj, h]
        rw [fo_s e] at hx ht
        refine g_iinc X d_D_shortenOver_65 rfl (nI_1 _) (by decide) ?_
        refine g_goto X 12 d_D_shortenOver_68 (by decide) ?_
        exact g_sb (ih (j + 1) S (by omega) hs hx ht) ⟨rfl, rfl, rfl, rfl, trivial⟩
      · have h := b2_t hc
        refine g_aload_n X 0 d_D_shortenOver_29 rfl rfl ?_
        refine g_iload_n X 1 d_D_shortenOver_30 rfl rfl ?_
        refine g_iload_n X 3 d_D_shortenOver_31 rfl rfl ?_
        refine g_VP X KOk.n v_D_43 (dl_m (by omega)) rfl (c_M_has htr (by omega) ho (by omega)) d_D_shortenOver_32 rfl ⟨Nat.le_of_ble_eq_true rfl, Nat.le_of_ble_eq_true rfl, Nat.le_of_ble_eq_true rfl, Nat.le_of_ble_eq_true rfl⟩ ?_
        rw [va_up_s]
        refine g_if_eq X 65 d_D_shortenOver_35 (by decide) (fun hd => ?_) (fun hd => ?_)
        · have h2 := b2_0.mp hd
          have e : (shj o i) j S = some S := by simp [shj, h2]
          rw [fo_s e] at hx ht
          refine g_iinc X d_D_shortenOver_65 rfl (nI_1 _) (by decide) ?_
          refine g_goto X 12 d_D_shortenOver_68 (by decide) ?_
          exact g_sb (ih (j + 1) S (by omega) hs hx ht) ⟨rfl, rfl, rfl, rfl, trivial⟩
        · have h2 := b2_t hd
          refine g_iconst X (v := nI 1) d_D_shortenOver_38 (by decide) ?_
          refine g_aload_n X 0 d_D_shortenOver_39 rfl rfl ?_
          refine g_iload_n X 2 d_D_shortenOver_40 rfl rfl ?_
          refine g_iload_n X 1 d_D_shortenOver_41 rfl rfl ?_
          refine g_VP X KOk.n v_D_54 (dl_m (by omega)) rfl (c_M_value htr (by omega) hi ho) d_D_shortenOver_42 rfl ⟨Nat.le_of_ble_eq_true rfl, Nat.le_of_ble_eq_true rfl, Nat.le_of_ble_eq_true rfl, Nat.le_of_ble_eq_true rfl⟩ ?_
          rw [va_up_s]
          refine g_aload_n X 0 d_D_shortenOver_45 rfl rfl ?_
          refine g_iload_n X 1 d_D_shortenOver_46 rfl rfl ?_
          refine g_iload_n X 3 d_D_shortenOver_47 rfl rfl ?_
          refine g_VP X KOk.n v_D_54 (dl_m (by omega)) rfl (c_M_value htr (by omega) ho (by omega)) d_D_shortenOver_48 rfl ⟨Nat.le_of_ble_eq_true rfl, Nat.le_of_ble_eq_true rfl, Nat.le_of_ble_eq_true rfl, Nat.le_of_ble_eq_true rfl⟩ ?_
          rw [va_up_s]
          have hC := c_D_productOver htr (δ := δ) (ad := ad) (M := va_up M 6 S) (k := 1) (x := mVal S (8 * i + o)) (y := mVal S (8 * o + j)) (by decide)
          cases hv : prS 1 (mVal S (8 * i + o)) (mVal S (8 * o + j)) with
          | none =>
            rw [hv] at hC
            have e : (shj o i) j S = none := by simp [shj, h, h2, hv]
            exact g_ST X KOk.n s_D_108 (hC) d_D_shortenOver_51 rfl ⟨Nat.le_of_ble_eq_true rfl, Nat.le_of_ble_eq_true rfl, Nat.le_of_ble_eq_true rfl, Nat.le_of_ble_eq_true rfl⟩ (ht (fo_n e) S)
          | some z =>
            rw [hv] at hC
            have e : (shj o i) j S = gaS 1 S (8 * i + j) z := by simp [shj, h, h2, hv]
            refine g_SP X KOk.n s_D_108 (hC) d_D_shortenOver_51 rfl ⟨Nat.le_of_ble_eq_true rfl, Nat.le_of_ble_eq_true rfl, Nat.le_of_ble_eq_true rfl, Nat.le_of_ble_eq_true rfl⟩ ?_
            refine g_lstore X d_D_shortenOver_54 (by decide) ?_
            refine g_aload_n X 0 d_D_shortenOver_56 rfl rfl ?_
            refine g_iload_n X 2 d_D_shortenOver_57 rfl rfl ?_
            refine g_iload_n X 3 d_D_shortenOver_58 rfl rfl ?_
            refine g_lload X d_D_shortenOver_59 rfl ?_
            refine g_iconst X (v := nI 1) d_D_shortenOver_61 (by decide) ?_
            refine g_SPO X s_D_119 (c_D_gather htr hinj hi (by omega) (by decide)) d_D_shortenOver_62 rfl ⟨Nat.le_of_ble_eq_true rfl, Nat.le_of_ble_eq_true rfl, Nat.le_of_ble_eq_true rfl, Nat.le_of_ble_eq_true rfl⟩ (fun S' hS => ?_) (fun hS S' => ?_)
            · rw [va_up_s] at hS
              have hs' := (gaS_sh hS).2.trans hs
              rw [fo_s (e.trans hS)] at hx ht
              refine g_iinc X d_D_shortenOver_65 rfl (nI_1 _) (by decide) ?_
              refine g_goto X 12 d_D_shortenOver_68 (by decide) ?_
              exact g_sb (ih (j + 1) S' (by omega) hs' hx ht) ⟨rfl, rfl, rfl, rfl, trivial⟩
            · rw [va_up_s] at hS
              exact ht (fo_n (e.trans hS)) S'
set_option maxHeartbeats 4000000 in
set_option maxRecDepth 100000 in
theorem l_D_shi {κ : KX} {δ : EX} {ad : Nat → Nat} (X : XO κ R_D b_D_shortenOver 6 none δ (RM 4) (Ar ad) []) (htr : (xl κ).stackTraces = false) (hinj : Inj ad) {M : DS} {o R C : Nat} (ho : o < 8) (h7 : R ≤ 8) (h8 : C ≤ 8) : ∀ n i S, i + n = R → S.1 = R → S.2.1 = C → G κ 6 δ (Kn κ (Ar ad)) (Qe κ δ (Ar ad) (PO δ ad M (fo (shi C o) i n S))) 0 0 (dl δ ad (va_up M 6 S)) [(2, .int (nI i)), (0, .ref (mq ad 6)), (1, .int (nI o))] [] 2 := by
  intro n
  induction n with
  | zero =>
    intro i S hi h1 h2
    refine g_iload_n X 2 d_D_shortenOver_2 rfl rfl ?_
    refine g_aload_n X 0 d_D_shortenOver_3 rfl rfl ?_
    refine r_rows X kf_D_58 d_D_shortenOver_4 (by omega) ?_
    rw [va_up_s, h1]
    refine g_icmp_ge X 77 d_D_shortenOver_7 (by decide) (fun hc => ?_) (fun hc => ?_)
    · exact g_vret X KOk.n d_D_shortenOver_77 (Or.inl ⟨S, rfl, rfl, rfl⟩)
    · exact absurd (nI_le (by omega) (by omega)) hc
  | succ n ih =>
    intro i S hi h1 h2
    refine g_iload_n X 2 d_D_shortenOver_2 rfl rfl ?_
    refine g_aload_n X 0 d_D_shortenOver_3 rfl rfl ?_
    refine r_rows X kf_D_58 d_D_shortenOver_4 (by omega) ?_
    rw [va_up_s, h1]
    refine g_icmp_ge X 77 d_D_shortenOver_7 (by decide) (fun hc => ?_) (fun hc => ?_)
    · exact absurd hc (nI_ge (by omega) (by omega))
    · clear hc
      refine g_iconst X (v := nI 0) d_D_shortenOver_10 (by decide) ?_
      refine g_istore_n X 3 d_D_shortenOver_11 rfl (by decide) ?_
      refine g_sb (l_D_shj X htr hinj ho (by omega) h8 C 0 S (by omega) h2 (fun S' hS => ?_) (fun hS S' => ?_)) ⟨rfl, rfl, rfl, rfl, trivial⟩
      · have q := fo_sh (f := shj o i) (fun j S S' h => shj_sh h) _ _ _ _ hS
        rw [fo_s (f := shi C o) hS]
        refine g_iinc X d_D_shortenOver_71 rfl (nI_1 _) (by decide) ?_
        refine g_goto X 2 d_D_shortenOver_74 (by decide) ?_
        exact g_sb (ih (i + 1) S' (by omega) (q.1.trans h1) (q.2.trans h2)) ⟨rfl, rfl, rfl, trivial⟩
      · exact Or.inr ⟨fo_n (f := shi C o) hS, rfl, S', rfl⟩
set_option maxHeartbeats 4000000 in
set_option maxRecDepth 100000 in
theorem c_D_sh {l : Launch} (htr : l.stackTraces = false) {δ : EX} {ad : Nat → Nat} {M : DS} (hinj : Inj ad) {o : Nat} (ho : o < 8) (h7 : (M 6).1 ≤ 8) (h8 : (M 6).2.1 ≤ 8) : CT l y_D_shortenOver cw_D_shortenOver (RM 4) δ (Ar ad) (dl δ ad M) [.ref (mq ad 6), .int (nI o)] (PO δ ad M (fo (shi (M 6).2.1 o) 0 (M 6).1 (M 6))) := by
  refine CT.ofN (lv := [(0, .ref (mq ad 6)), (1, .int (nI o))]) (Or.inl ⟨rfl, rfl⟩) (by decide) htr rfl (Nat.le_of_ble_eq_true rfl) (fun κ hl X => ?_)
  subst hl
  refine g_iconst X (v := nI 0) d_D_shortenOver_0 (by decide) ?_
  refine g_istore_n X 2 d_D_shortenOver_1 rfl (by decide) ?_
  have e := l_D_shi X htr hinj ho h7 h8 (M 6).1 0 (M 6) (by omega) rfl rfl (M := M)
  rw [up_id] at e
  exact g_sb e ⟨rfl, rfl, rfl, trivial⟩
set_option maxHeartbeats 4000000 in
set_option maxRecDepth 100000 in
theorem l_D_spj {κ : KX} {δ : EX} {ad : Nat → Nat} (X : XO κ R_D b_D_spreadLeastVertices 6 none δ (RM 1) (Ar ad) []) (htr : (xl κ).stackTraces = false) (hinj : Inj ad) {M : DS} {P' : OC → va_W → Prop} {a i : Nat} (ha : a < 6) (hi : i < 8) (h8 : (M a).2.1 ≤ 8) : ∀ n j S, j + n = (M a).2.1 → G κ 6 δ (Kn κ (Ar ad)) (Qe κ δ (Ar ad) P') 0 0 (dl δ ad (va_up M 6 (fl (spj (M a) i) j n S))) [(0, .ref (mq ad 6)), (1, .ref (mq ad a)), (2, .int (nI i))] [] 68 → G κ 6 δ (Kn κ (Ar ad)) (Qe κ δ (Ar ad) P') 0 0 (dl δ ad (va_up M 6 S)) [(3, .int (nI j)), (0, .ref (mq ad 6)), (1, .ref (mq ad a)), (2, .int (nI i))] [] 12 := by
  intro n
  induction n with
  | zero =>
    intro j S hj hx
    refine g_iload_n X 3 d_D_spreadLeastVertices_12 rfl rfl ?_
    refine g_aload_n X 1 d_D_spreadLeastVertices_13 rfl rfl ?_
    refine r_cols X kf_D_62 d_D_spreadLeastVertices_14 (by omega) ?_
    rw [va_up6 ha]
    refine g_icmp_ge X 68 d_D_spreadLeastVertices_17 (by decide) (fun hc => ?_) (fun hc => ?_)
    · exact g_sb hx ⟨rfl, rfl, rfl, trivial⟩
    · exact absurd (nI_le (by omega) (by omega)) hc
  | succ n ih =>
    intro j S hj hx
    refine g_iload_n X 3 d_D_spreadLeastVertices_12 rfl rfl ?_
    refine g_aload_n X 1 d_D_spreadLeastVertices_13 rfl rfl ?_
    refine r_cols X kf_D_62 d_D_spreadLeastVertices_14 (by omega) ?_
    rw [va_up6 ha]
    refine g_icmp_ge X 68 d_D_spreadLeastVertices_17 (by decide) (fun hc => ?_) (fun hc => ?_)
    · exact absurd hc (nI_ge (by omega) (by omega))
    · clear hc
      refine g_aload_n X 1 d_D_spreadLeastVertices_20 rfl rfl ?_
      refine g_iload_n X 2 d_D_spreadLeastVertices_21 rfl rfl ?_
      refine g_iload_n X 3 d_D_spreadLeastVertices_22 rfl rfl ?_
      refine g_VP X KOk.n v_D_43 (dl_m (by omega)) rfl (c_M_has htr (by omega) hi (by omega)) d_D_spreadLeastVertices_23 rfl ⟨Nat.le_of_ble_eq_true rfl, Nat.le_of_ble_eq_true rfl, Nat.le_of_ble_eq_true rfl, Nat.le_of_ble_eq_true rfl⟩ ?_
      rw [va_up6 ha]
      refine g_if_eq X 62 d_D_spreadLeastVertices_26 (by decide) (fun hc => ?_) (fun hc => ?_)
      · have h := b2_0.mp hc
        have e : (spj (M a) i) j S = S := by simp [spj, h]
        have hx' := hx
        simp only [fl, e] at hx'
        refine g_iinc X d_D_spreadLeastVertices_62 rfl (nI_1 _) (by decide) ?_
        refine g_goto X 12 d_D_spreadLeastVertices_65 (by decide) ?_
        exact g_sb (ih (j + 1) S (by omega) hx') ⟨rfl, rfl, rfl, rfl, trivial⟩
      · have h := b2_t hc
        have e : (spj (M a) i) j S = mEnter (mEnter S (8 * 0 + i) (miL (mVal S (8 * 0 + i)) (mVal S (8 * 0 + j)))) (8 * 0 + j) (miL (mVal S (8 * 0 + i)) (mVal S (8 * 0 + j))) := by simp only [spj]; rw [if_pos h]
        have hx' := hx
        simp only [fl, e] at hx'
        refine g_aload_n X 0 d_D_spreadLeastVertices_29 rfl rfl ?_
        refine g_iconst X (v := nI 0) d_D_spreadLeastVertices_30 (by decide) ?_
        refine g_iload_n X 2 d_D_spreadLeastVertices_31 rfl rfl ?_
        refine g_VP X KOk.n v_D_54 (dl_m (by omega)) rfl (c_M_value htr (by omega) (by omega) (by omega)) d_D_spreadLeastVertices_32 rfl ⟨Nat.le_of_ble_eq_true rfl, Nat.le_of_ble_eq_true rfl, Nat.le_of_ble_eq_true rfl, Nat.le_of_ble_eq_true rfl⟩ ?_
        rw [va_up_s]
        refine g_aload_n X 0 d_D_spreadLeastVertices_35 rfl rfl ?_
        refine g_iconst X (v := nI 0) d_D_spreadLeastVertices_36 (by decide) ?_
        refine g_iload_n X 3 d_D_spreadLeastVertices_37 rfl rfl ?_
        refine g_VP X KOk.n v_D_54 (dl_m (by omega)) rfl (c_M_value htr (by omega) (by omega) (by omega)) d_D_spreadLeastVertices_38 rfl ⟨Nat.le_of_ble_eq_true rfl, Nat.le_of_ble_eq_true rfl, Nat.le_of_ble_eq_true rfl, Nat.le_of_ble_eq_true rfl⟩ ?_
        rw [va_up_s]
        refine g_lmin X kl_D_153 d_D_spreadLeastVertices_41 ⟨Nat.le_of_ble_eq_true rfl, Nat.le_of_ble_eq_true rfl, Nat.le_of_ble_eq_true rfl, Nat.le_of_ble_eq_true rfl⟩ ?_
        refine g_lstore X d_D_spreadLeastVertices_44 (by decide) ?_
        refine g_aload_n X 0 d_D_spreadLeastVertices_46 rfl rfl ?_
        refine g_iconst X (v := nI 0) d_D_spreadLeastVertices_47 (by decide) ?_
        refine g_iload_n X 2 d_D_spreadLeastVertices_48 rfl rfl ?_
        refine g_lload X d_D_spreadLeastVertices_49 rfl ?_
        refine g_VN1 X v_D_39 (dl_m (by omega)) rfl (c_M_enter htr hinj (by omega) (by omega) (by omega)) d_D_spreadLeastVertices_51 rfl ⟨Nat.le_of_ble_eq_true rfl, Nat.le_of_ble_eq_true rfl, Nat.le_of_ble_eq_true rfl, Nat.le_of_ble_eq_true rfl⟩ ?_
        rw [va_up_s, bx_uu]
        refine g_aload_n X 0 d_D_spreadLeastVertices_54 rfl rfl ?_
        refine g_iconst X (v := nI 0) d_D_spreadLeastVertices_55 (by decide) ?_
        refine g_iload_n X 3 d_D_spreadLeastVertices_56 rfl rfl ?_
        refine g_lload X d_D_spreadLeastVertices_57 rfl ?_
        refine g_VN1 X v_D_39 (dl_m (by omega)) rfl (c_M_enter htr hinj (by omega) (by omega) (by omega)) d_D_spreadLeastVertices_59 rfl ⟨Nat.le_of_ble_eq_true rfl, Nat.le_of_ble_eq_true rfl, Nat.le_of_ble_eq_true rfl, Nat.le_of_ble_eq_true rfl⟩ ?_
        rw [va_up_s, bx_uu]
        refine g_iinc X d_D_spreadLeastVertices_62 rfl (nI_1 _) (by decide) ?_
        refine g_goto X 12 d_D_spreadLeastVertices_65 (by decide) ?_
        exact g_sb (ih (j + 1) _ (by omega) hx') ⟨rfl, rfl, rfl, rfl, trivial⟩
set_option maxHeartbeats 4000000 in
set_option maxRecDepth 100000 in
theorem l_D_spi {κ : KX} {δ : EX} {ad : Nat → Nat} (X : XO κ R_D b_D_spreadLeastVertices 6 none δ (RM 1) (Ar ad) []) (htr : (xl κ).stackTraces = false) (hinj : Inj ad) {M : DS} {a : Nat} (ha : a < 6) (h7 : (M a).1 ≤ 8) (h8 : (M a).2.1 ≤ 8) : ∀ n i S, i + n = (M a).1 → G κ 6 δ (Kn κ (Ar ad)) (Qe κ δ (Ar ad) (fun r w => r = .inr none ∧ w = dl δ ad (va_up M 6 (fl (spi (M a)) i n S)))) 0 0 (dl δ ad (va_up M 6 S)) [(2, .int (nI i)), (0, .ref (mq ad 6)), (1, .ref (mq ad a))] [] 2 := by
  intro n
  induction n with
  | zero =>
    intro i S hi
    refine g_iload_n X 2 d_D_spreadLeastVertices_2 rfl rfl ?_
    refine g_aload_n X 1 d_D_spreadLeastVertices_3 rfl rfl ?_
    refine r_rows X kf_D_58 d_D_spreadLeastVertices_4 (by omega) ?_
    rw [va_up6 ha]
    refine g_icmp_ge X 74 d_D_spreadLeastVertices_7 (by decide) (fun hc => ?_) (fun hc => ?_)
    · exact g_vret X KOk.n d_D_spreadLeastVertices_74 ⟨rfl, rfl⟩
    · exact absurd (nI_le (by omega) (by omega)) hc
  | succ n ih =>
    intro i S hi
    refine g_iload_n X 2 d_D_spreadLeastVertices_2 rfl rfl ?_
    refine g_aload_n X 1 d_D_spreadLeastVertices_3 rfl rfl ?_
    refine r_rows X kf_D_58 d_D_spreadLeastVertices_4 (by omega) ?_
    rw [va_up6 ha]
    refine g_icmp_ge X 74 d_D_spreadLeastVertices_7 (by decide) (fun hc => ?_) (fun hc => ?_)
    · exact absurd hc (nI_ge (by omega) (by omega))
    · clear hc
      refine g_iconst X (v := nI 0) d_D_spreadLeastVertices_10 (by decide) ?_
      refine g_istore_n X 3 d_D_spreadLeastVertices_11 rfl (by decide) ?_
      refine g_sb (l_D_spj X htr hinj ha (by omega) h8 (M a).2.1 0 S (by omega) ?_) ⟨rfl, rfl, rfl, rfl, trivial⟩
      refine g_iinc X d_D_spreadLeastVertices_68 rfl (nI_1 _) (by decide) ?_
      refine g_goto X 2 d_D_spreadLeastVertices_71 (by decide) ?_
      exact g_sb (ih (i + 1) (spi (M a) i S) (by omega)) ⟨rfl, rfl, rfl, trivial⟩
set_option maxHeartbeats 4000000 in
set_option maxRecDepth 100000 in
theorem c_D_sp {l : Launch} (htr : l.stackTraces = false) {δ : EX} {ad : Nat → Nat} {M : DS} (hinj : Inj ad) {a : Nat} (ha : a < 6) (h7 : (M a).1 ≤ 8) (h8 : (M a).2.1 ≤ 8) : CTN l y_D_spreadLeastVertices cw_D_spreadLeastVertices (RM 1) δ (Ar ad) (dl δ ad M) [.ref (mq ad 6), .ref (mq ad a)] none (dl δ ad (va_up M 6 (fl (spi (M a)) 0 (M a).1 (M 6)))) := by
  refine CT.ofN (lv := [(0, .ref (mq ad 6)), (1, .ref (mq ad a))]) (Or.inl ⟨rfl, rfl⟩) (by decide) htr rfl (Nat.le_of_ble_eq_true rfl) (fun κ hl X => ?_)
  subst hl
  refine g_iconst X (v := nI 0) d_D_spreadLeastVertices_0 (by decide) ?_
  refine g_istore_n X 2 d_D_spreadLeastVertices_1 rfl (by decide) ?_
  have e := l_D_spi X htr hinj ha h7 h8 (M a).1 0 (M 6) (by omega) (M := M)
  rw [up_id] at e
  exact g_sb e ⟨rfl, rfl, rfl, trivial⟩
end GD4
end
section
section GD5
/-- a length out of range -/
def blL (F : Mx) (i j : Nat) : Prop := mHas F (8 * i + j) = true ∧ 1000000000 < abL (mVal F (8 * i + j))
def leL (F : Mx) : Prop := ∀ i, i < F.1 → ∀ j, j < F.2.1 → ¬ blL F i j
def ciL (F : Mx) : Prop := ∀ i, i < F.1 → ¬ mVal F (8 * i + i) < 0
set_option maxHeartbeats 4000000 in
set_option maxRecDepth 100000 in
theorem l_D_lej {κ : KX} {δ : EX} {ad : Nat → Nat} (X : XO κ R_D b_D_requireLengths 3 none δ (RM 1) NoA []) (htr : (xl κ).stackTraces = false) {M : DS} {a i : Nat} (ha : a < 6) (hi : i < (M a).1) (h7 : (M a).1 ≤ 8) (h8 : (M a).2.1 ≤ 8) : ∀ n j, j + n = (M a).2.1 → (∀ j', j' < j → ¬ blL (M a) i j') → ((∀ j', j' < (M a).2.1 → ¬ blL (M a) i j') → G κ 3 δ (Kp κ) (Qe κ δ NoA (fun r w => w = dl δ ad M ∧ ((leL (M a) ∧ r = .inr none) ∨ (¬ leL (M a) ∧ r = .inl 4)))) 0 0 (dl δ ad M) [(0, .ref (mq ad a)), (1, .int (nI i))] [] 61) → G κ 3 δ (Kp κ) (Qe κ δ NoA (fun r w => w = dl δ ad M ∧ ((leL (M a) ∧ r = .inr none) ∨ (¬ leL (M a) ∧ r = .inl 4)))) 0 0 (dl δ ad M) [(2, .int (nI j)), (0, .ref (mq ad a)), (1, .int (nI i))] [] 12 := by
  intro n
  induction n with
  | zero =>
    intro j hj hq hx
    refine g_iload_n X 2 d_D_requireLengths_12 rfl rfl ?_
    refine g_aload_n X 0 d_D_requireLengths_13 rfl rfl ?_
    refine r_cols X kf_D_62 d_D_requireLengths_14 (by omega) ?_
    refine g_icmp_ge X 61 d_D_requireLengths_17 (by decide) (fun hc => ?_) (fun hc => ?_)
    · exact g_sb (hx (fun j' h => hq j' (by omega))) ⟨rfl, rfl, trivial⟩
    · exact absurd (nI_le (by omega) (by omega)) hc
  | succ n ih =>
    intro j hj hq hx
    refine g_iload_n X 2 d_D_requireLengths_12 rfl rfl ?_
    refine g_aload_n X 0 d_D_requireLengths_13 rfl rfl ?_
    refine r_cols X kf_D_62 d_D_requireLengths_14 (by omega) ?_
    refine g_icmp_ge X 61 d_D_requireLengths_17 (by decide) (fun hc => ?_) (fun hc => ?_)
    · exact absurd hc (nI_ge (by omega) (by omega))
    · clear hc
      have go : ¬ blL (M a) i j → G κ 3 δ (Kp κ) (Qe κ δ NoA (fun r w => w = dl δ ad M ∧ ((leL (M a) ∧ r = .inr none) ∨ (¬ leL (M a) ∧ r = .inl 4)))) 0 0 (dl δ ad M) [(2, .int (nI j)), (0, .ref (mq ad a)), (1, .int (nI i))] [] 55 := fun hb => by
        refine g_iinc X d_D_requireLengths_55 rfl (nI_1 _) (by decide) ?_
        refine g_goto X 12 d_D_requireLengths_58 (by decide) ?_
        refine g_sb (ih (j + 1) (by omega) (fun j' h => ?_) hx) ⟨rfl, rfl, rfl, trivial⟩
        by_cases e : j' = j
        · rw [e]; exact hb
        · exact hq j' (by omega)
      refine g_aload_n X 0 d_D_requireLengths_20 rfl rfl ?_
      refine g_iload_n X 1 d_D_requireLengths_21 rfl rfl ?_
      refine g_iload_n X 2 d_D_requireLengths_22 rfl rfl ?_
      refine g_VP X KOk.p v_D_43 (dl_m (by omega)) rfl (c_M_has htr (by omega) (by omega) (by omega)) d_D_requireLengths_23 rfl ⟨Nat.le_of_ble_eq_true rfl, Nat.le_of_ble_eq_true rfl, Nat.le_of_ble_eq_true rfl, Nat.le_of_ble_eq_true rfl⟩ ?_
      refine g_if_eq X 55 d_D_requireLengths_26 (by decide) (fun hc => ?_) (fun hc => ?_)
      · have h := b2_0.mp hc
        exact go (fun q => absurd (h.symm.trans q.1) (by decide))
      · have h := b2_t hc
        refine g_aload_n X 0 d_D_requireLengths_29 rfl rfl ?_
        refine g_iload_n X 1 d_D_requireLengths_30 rfl rfl ?_
        refine g_iload_n X 2 d_D_requireLengths_31 rfl rfl ?_
        refine g_VP X KOk.p v_D_54 (dl_m (by omega)) rfl (c_M_value htr (by omega) (by omega) (by omega)) d_D_requireLengths_32 rfl ⟨Nat.le_of_ble_eq_true rfl, Nat.le_of_ble_eq_true rfl, Nat.le_of_ble_eq_true rfl, Nat.le_of_ble_eq_true rfl⟩ ?_
        refine g_labs X kl_D_175 d_D_requireLengths_35 ⟨Nat.le_of_ble_eq_true rfl, Nat.le_of_ble_eq_true rfl, Nat.le_of_ble_eq_true rfl, Nat.le_of_ble_eq_true rfl⟩ ?_
        refine g_ldc2 X d_D_requireLengths_38 kq_D_216 ?_
        refine g_lcmp X d_D_requireLengths_41 ?_
        refine g_if_le X 55 d_D_requireLengths_42 (by decide) (fun hd => ?_) (fun hd => ?_)
        · have h2 := Int64.not_lt.mpr ((lg_cmp_le _ _).mp hd)
          exact go (fun q => h2 q.2)
        · have h2 := Int64.not_le.mp (fun q => hd ((lg_cmp_le _ _).mpr q))
          exact x_4 X kr_D_218 d_D_requireLengths_45 d_D_requireLengths_48 d_D_requireLengths_49 d_D_requireLengths_51 d_D_requireLengths_54 ⟨Nat.le_of_ble_eq_true rfl, Nat.le_of_ble_eq_true rfl, Nat.le_of_ble_eq_true rfl, Nat.le_of_ble_eq_true rfl⟩ ⟨rfl, Or.inr ⟨fun q => q i hi j (by omega) ⟨h, h2⟩, rfl⟩⟩
set_option maxHeartbeats 4000000 in
set_option maxRecDepth 100000 in
theorem l_D_lei {κ : KX} {δ : EX} {ad : Nat → Nat} (X : XO κ R_D b_D_requireLengths 3 none δ (RM 1) NoA []) (htr : (xl κ).stackTraces = false) {M : DS} {a : Nat} (ha : a < 6) (h7 : (M a).1 ≤ 8) (h8 : (M a).2.1 ≤ 8) : ∀ n i, i + n = (M a).1 → (∀ i', i' < i → ∀ j, j < (M a).2.1 → ¬ blL (M a) i' j) → G κ 3 δ (Kp κ) (Qe κ δ NoA (fun r w => w = dl δ ad M ∧ ((leL (M a) ∧ r = .inr none) ∨ (¬ leL (M a) ∧ r = .inl 4)))) 0 0 (dl δ ad M) [(1, .int (nI i)), (0, .ref (mq ad a))] [] 2 := by
  intro n
  induction n with
  | zero =>
    intro i hi hq
    refine g_iload_n X 1 d_D_requireLengths_2 rfl rfl ?_
    refine g_aload_n X 0 d_D_requireLengths_3 rfl rfl ?_
    refine r_rows X kf_D_58 d_D_requireLengths_4 (by omega) ?_
    refine g_icmp_ge X 67 d_D_requireLengths_7 (by decide) (fun hc => ?_) (fun hc => ?_)
    · exact g_vret X KOk.p d_D_requireLengths_67 ⟨rfl, Or.inl ⟨fun i' h => hq i' (by omega), rfl⟩⟩
    · exact absurd (nI_le (by omega) (by omega)) hc
  | succ n ih =>
    intro i hi hq
    refine g_iload_n X 1 d_D_requireLengths_2 rfl rfl ?_
    refine g_aload_n X 0 d_D_requireLengths_3 rfl rfl ?_
    refine r_rows X kf_D_58 d_D_requireLengths_4 (by omega) ?_
    refine g_icmp_ge X 67 d_D_requireLengths_7 (by decide) (fun hc => ?_) (fun hc => ?_)
    · exact absurd hc (nI_ge (by omega) (by omega))
    · clear hc
      refine g_iconst X (v := nI 0) d_D_requireLengths_10 (by decide) ?_
      refine g_istore_n X 2 d_D_requireLengths_11 rfl (by decide) ?_
      refine g_sb (l_D_lej X htr ha (by omega) h7 h8 (M a).2.1 0 (by omega) (fun _ h => absurd h (by omega)) (fun hr => ?_)) ⟨rfl, rfl, rfl, trivial⟩
      refine g_iinc X d_D_requireLengths_61 rfl (nI_1 _) (by decide) ?_
      refine g_goto X 2 d_D_requireLengths_64 (by decide) ?_
      refine g_sb (ih (i + 1) (by omega) (fun i' h => ?_)) ⟨rfl, rfl, trivial⟩
      by_cases e : i' = i
      · rw [e]; exact hr
      · exact hq i' (by omega)
set_option maxHeartbeats 4000000 in
set_option maxRecDepth 100000 in
theorem c_D_le0 {l : Launch} (htr : l.stackTraces = false) {δ : EX} {ad : Nat → Nat} {M : DS} {a : Nat} (ha : a < 6) (h7 : (M a).1 ≤ 8) (h8 : (M a).2.1 ≤ 8) : CT l y_D_requireLengths cw_D_requireLengths (RM 1) δ NoA (dl δ ad M) [.ref (mq ad a)] (fun r w => w = dl δ ad M ∧ ((leL (M a) ∧ r = .inr none) ∨ (¬ leL (M a) ∧ r = .inl 4))) := by
  refine CT.ofP (lv := [(0, .ref (mq ad a))]) (Or.inl ⟨rfl, rfl⟩) (by decide) htr rfl (Nat.le_of_ble_eq_true rfl) (fun κ hl X => ?_)
  subst hl
  refine g_iconst X (v := nI 0) d_D_requireLengths_0 (by decide) ?_
  refine g_istore_n X 1 d_D_requireLengths_1 rfl (by decide) ?_
  exact g_sb (l_D_lei X htr ha h7 h8 (M a).1 0 (by omega) (fun _ h => absurd h (by omega))) ⟨rfl, rfl, trivial⟩
theorem CT.mono {l : Launch} {y : MethodName} {cw : Cond} {rm : Room} {δ : EX} {A0 : Nat → Prop} {ws : va_W} {av : List Value} {P P2 : OC → va_W → Prop} (h : ∀ r w, P r w → P2 r w) (hC : CT l y cw rm δ A0 ws av P) : CT l y cw rm δ A0 ws av P2 := by
  intro p e ha hc hk s m args below hf happ hP hK
  obtain ⟨n, o, h1, h2, h3, r, w, L, k, n', h4, h5⟩ := hC p e ha hc hk s m args below hf happ hP hK
  exact ⟨n, o, h1, h2, h3, r, w, L, k, n', h r w h4, h5⟩
theorem c_D_le {l : Launch} (htr : l.stackTraces = false) {δ : EX} {ad : Nat → Nat} {M : DS} {a : Nat} (ha : a < 6) (h7 : (M a).1 ≤ 8) (h8 : (M a).2.1 ≤ 8) (h : leL (M a)) : CTP l y_D_requireLengths cw_D_requireLengths (RM 1) δ (dl δ ad M) [.ref (mq ad a)] (.inr none) := CT.mono (fun r w q => by
  rcases q.2 with ⟨-, h2⟩ | ⟨h1, -⟩
  · exact ⟨h2, q.1⟩
  · exact absurd h h1) (c_D_le0 htr ha h7 h8)
theorem c_D_le_x {l : Launch} (htr : l.stackTraces = false) {δ : EX} {ad : Nat → Nat} {M : DS} {a : Nat} (ha : a < 6) (h7 : (M a).1 ≤ 8) (h8 : (M a).2.1 ≤ 8) (h : ¬ leL (M a)) : CTP l y_D_requireLengths cw_D_requireLengths (RM 1) δ (dl δ ad M) [.ref (mq ad a)] (.inl 4) := CT.mono (fun r w q => by
  rcases q.2 with ⟨h1, -⟩ | ⟨-, h2⟩
  · exact absurd h1 h
  · exact ⟨h2, q.1⟩) (c_D_le0 htr ha h7 h8)
set_option maxHeartbeats 4000000 in
set_option maxRecDepth 100000 in
theorem l_D_ci {κ : KX} {δ : EX} {ad : Nat → Nat} (X : XO κ R_D b_D_requireNoCircleBelowZero 2 none δ (RM 1) NoA []) (htr : (xl κ).stackTraces = false) {M : DS} (h7 : (M 6).1 ≤ 8) : ∀ n i, i + n = (M 6).1 → (∀ i', i' < i → ¬ mVal (M 6) (8 * i' + i') < 0) → G κ 2 δ (Kp κ) (Qe κ δ NoA (fun r w => w = dl δ ad M ∧ ((ciL (M 6) ∧ r = .inr none) ∨ (¬ ciL (M 6) ∧ r = .inl 3)))) 0 0 (dl δ ad M) [(1, .int (nI i)), (0, .ref (mq ad 6))] [] 2 := by
  intro n
  induction n with
  | zero =>
    intro i hi hq
    refine g_iload_n X 1 d_D_requireNoCircleBelowZero_2 rfl rfl ?_
    refine g_aload_n X 0 d_D_requireNoCircleBelowZero_3 rfl rfl ?_
    refine r_rows X kf_D_58 d_D_requireNoCircleBelowZero_4 (by omega) ?_
    refine g_icmp_ge X 37 d_D_requireNoCircleBelowZero_7 (by decide) (fun hc => ?_) (fun hc => ?_)
    · exact g_vret X KOk.p d_D_requireNoCircleBelowZero_37 ⟨rfl, Or.inl ⟨fun i' h => hq i' (by omega), rfl⟩⟩
    · exact absurd (nI_le (by omega) (by omega)) hc
  | succ n ih =>
    intro i hi hq
    refine g_iload_n X 1 d_D_requireNoCircleBelowZero_2 rfl rfl ?_
    refine g_aload_n X 0 d_D_requireNoCircleBelowZero_3 rfl rfl ?_
    refine r_rows X kf_D_58 d_D_requireNoCircleBelowZero_4 (by omega) ?_
    refine g_icmp_ge X 37 d_D_requireNoCircleBelowZero_7 (by decide) (fun hc => ?_) (fun hc => ?_)
    · exact absurd hc (nI_ge (by omega) (by omega))
    · clear hc
      refine g_aload_n X 0 d_D_requireNoCircleBelowZero_10 rfl rfl ?_
      refine g_iload_n X 1 d_D_requireNoCircleBelowZero_11 rfl rfl ?_
      refine g_iload_n X 1 d_D_requireNoCircleBelowZero_12 rfl rfl ?_
      refine g_VP X KOk.p v_D_54 (dl_m (by omega)) rfl (c_M_value htr (by omega) (by omega) (by omega)) d_D_requireNoCircleBelowZero_13 rfl ⟨Nat.le_of_ble_eq_true rfl, Nat.le_of_ble_eq_true rfl, Nat.le_of_ble_eq_true rfl, Nat.le_of_ble_eq_true rfl⟩ ?_
      refine g_lconst X (v := 0) d_D_requireNoCircleBelowZero_16 (by decide) ?_
      refine g_lcmp X d_D_requireNoCircleBelowZero_17 ?_
      refine g_if_ge X 31 d_D_requireNoCircleBelowZero_18 (by decide) (fun hc => ?_) (fun hc => ?_)
      · have h2 := Int64.not_lt.mpr ((lg_cmp_ge _ _).mp hc)
        refine g_iinc X d_D_requireNoCircleBelowZero_31 rfl (nI_1 _) (by decide) ?_
        refine g_goto X 2 d_D_requireNoCircleBelowZero_34 (by decide) ?_
        refine g_sb (ih (i + 1) (by omega) (fun i' h => ?_)) ⟨rfl, rfl, trivial⟩
        by_cases e : i' = i
        · rw [e]; exact h2
        · exact hq i' (by omega)
      · have h2 := Int64.not_le.mp (fun q => hc ((lg_cmp_ge _ _).mpr q))
        exact x_3 X kr_D_220 d_D_requireNoCircleBelowZero_21 d_D_requireNoCircleBelowZero_24 d_D_requireNoCircleBelowZero_25 d_D_requireNoCircleBelowZero_27 d_D_requireNoCircleBelowZero_30 ⟨Nat.le_of_ble_eq_true rfl, Nat.le_of_ble_eq_true rfl, Nat.le_of_ble_eq_true rfl, Nat.le_of_ble_eq_true rfl⟩ ⟨rfl, Or.inr ⟨fun q => q i (by omega) h2, rfl⟩⟩
set_option maxHeartbeats 4000000 in
set_option maxRecDepth 100000 in
theorem c_D_ci0 {l : Launch} (htr : l.stackTraces = false) {δ : EX} {ad : Nat → Nat} {M : DS} (h7 : (M 6).1 ≤ 8) : CT l y_D_requireNoCircleBelowZero cw_D_requireNoCircleBelowZero (RM 1) δ NoA (dl δ ad M) [.ref (mq ad 6)] (fun r w => w = dl δ ad M ∧ ((ciL (M 6) ∧ r = .inr none) ∨ (¬ ciL (M 6) ∧ r = .inl 3))) := by
  refine CT.ofP (lv := [(0, .ref (mq ad 6))]) (Or.inl ⟨rfl, rfl⟩) (by decide) htr rfl (Nat.le_of_ble_eq_true rfl) (fun κ hl X => ?_)
  subst hl
  refine g_iconst X (v := nI 0) d_D_requireNoCircleBelowZero_0 (by decide) ?_
  refine g_istore_n X 1 d_D_requireNoCircleBelowZero_1 rfl (by decide) ?_
  exact g_sb (l_D_ci X htr h7 (M 6).1 0 (by omega) (fun _ h => absurd h (by omega))) ⟨rfl, rfl, trivial⟩
theorem c_D_ci {l : Launch} (htr : l.stackTraces = false) {δ : EX} {ad : Nat → Nat} {M : DS} (h7 : (M 6).1 ≤ 8) (h : ciL (M 6)) : CTP l y_D_requireNoCircleBelowZero cw_D_requireNoCircleBelowZero (RM 1) δ (dl δ ad M) [.ref (mq ad 6)] (.inr none) := CT.mono (fun r w q => by
  rcases q.2 with ⟨-, h2⟩ | ⟨h1, -⟩
  · exact ⟨h2, q.1⟩
  · exact absurd h h1) (c_D_ci0 htr h7)
theorem c_D_ci_x {l : Launch} (htr : l.stackTraces = false) {δ : EX} {ad : Nat → Nat} {M : DS} (h7 : (M 6).1 ≤ 8) (h : ¬ ciL (M 6)) : CTP l y_D_requireNoCircleBelowZero cw_D_requireNoCircleBelowZero (RM 1) δ (dl δ ad M) [.ref (mq ad 6)] (.inl 3) := CT.mono (fun r w q => by
  rcases q.2 with ⟨h1, -⟩ | ⟨-, h2⟩
  · exact absurd h1 h
  · exact ⟨h2, q.1⟩) (c_D_ci0 htr h7)
end GD5
end
section
section PA
set_option maxHeartbeats 4000000 in
set_option maxRecDepth 100000 in
theorem c_D_shape {l : Launch} (htr : l.stackTraces = false) {δ : EX} {ad : Nat → Nat} {M : DS} (hinj : Inj ad) {r m n : Nat} (hr : r < 6) (h1 : 1 ≤ m) (h2 : m ≤ 8) (h3 : 1 ≤ n) (h4 : n ≤ 8) : CTN l y_D_shape cw_D_shape (RM 2) δ (Ar ad) (dl δ ad M) [.ref (ad 0), .int (nI r), .int (nI m), .int (nI n)] none (dl δ ad (va_up M r (mClear (M r) m n))) := by
  refine CT.ofN (lv := [(0, .ref (ad 0)), (1, .int (nI r)), (2, .int (nI m)), (3, .int (nI n))]) (Or.inl ⟨rfl, rfl⟩) (by decide) htr rfl (Nat.le_of_ble_eq_true rfl) (fun κ hl X => ?_)
  subst hl
  refine g_iload_n X 1 d_D_shape_0 rfl rfl ?_
  refine g_SP X KOk.n s_D_20 (c_D_reqReg htr hr) d_D_shape_1 rfl ⟨Nat.le_of_ble_eq_true rfl, Nat.le_of_ble_eq_true rfl, Nat.le_of_ble_eq_true rfl, Nat.le_of_ble_eq_true rfl⟩ ?_
  refine g_iload_n X 2 d_D_shape_4 rfl rfl ?_
  refine g_SP X KOk.n s_D_24 (c_D_reqSide htr h1 h2) d_D_shape_5 rfl ⟨Nat.le_of_ble_eq_true rfl, Nat.le_of_ble_eq_true rfl, Nat.le_of_ble_eq_true rfl, Nat.le_of_ble_eq_true rfl⟩ ?_
  refine g_iload_n X 3 d_D_shape_8 rfl rfl ?_
  refine g_SP X KOk.n s_D_24 (c_D_reqSide htr h3 h4) d_D_shape_9 rfl ⟨Nat.le_of_ble_eq_true rfl, Nat.le_of_ble_eq_true rfl, Nat.le_of_ble_eq_true rfl, Nat.le_of_ble_eq_true rfl⟩ ?_
  refine g_aload_n X 0 d_D_shape_12 rfl rfl ?_
  refine r_regs X d_D_shape_13 ?_
  refine g_iload_n X 1 d_D_shape_16 rfl rfl ?_
  refine r_aald X rfl (by omega) d_D_shape_17 ?_
  refine g_iload_n X 2 d_D_shape_18 rfl rfl ?_
  refine g_iload_n X 3 d_D_shape_19 rfl rfl ?_
  refine g_VN1 X v_D_27 (dl_m (by omega)) rfl (c_M_clear htr hinj (by omega)) d_D_shape_20 rfl ⟨Nat.le_of_ble_eq_true rfl, Nat.le_of_ble_eq_true rfl, Nat.le_of_ble_eq_true rfl, Nat.le_of_ble_eq_true rfl⟩ ?_
  exact g_vret X KOk.n d_D_shape_23 ⟨rfl, rfl⟩
set_option maxHeartbeats 4000000 in
set_option maxRecDepth 100000 in
theorem c_D_shape_x {l : Launch} (htr : l.stackTraces = false) {δ : EX} {ad : Nat → Nat} {M : DS} {x p q : Int32} (h : bR x ∨ bD p ∨ bD q) : CTP l y_D_shape cw_D_shape (RM 2) δ (dl δ ad M) [.ref (ad 0), .int x, .int p, .int q] (.inl 1) := by
  refine CT.ofP (lv := [(0, .ref (ad 0)), (1, .int x), (2, .int p), (3, .int q)]) (Or.inl ⟨rfl, rfl⟩) (by decide) htr rfl (Nat.le_of_ble_eq_true rfl) (fun κ hl X => ?_)
  subst hl
  refine g_iload_n X 1 d_D_shape_0 rfl rfl ?_
  rcases bR_or x with hb | ⟨r, hr, rfl⟩
  · exact g_ST X KOk.p s_D_20 (c_D_reqReg_x htr hb) d_D_shape_1 rfl ⟨Nat.le_of_ble_eq_true rfl, Nat.le_of_ble_eq_true rfl, Nat.le_of_ble_eq_true rfl, Nat.le_of_ble_eq_true rfl⟩ ⟨rfl, rfl⟩
  refine g_SP X KOk.p s_D_20 (c_D_reqReg htr hr) d_D_shape_1 rfl ⟨Nat.le_of_ble_eq_true rfl, Nat.le_of_ble_eq_true rfl, Nat.le_of_ble_eq_true rfl, Nat.le_of_ble_eq_true rfl⟩ ?_
  refine g_iload_n X 2 d_D_shape_4 rfl rfl ?_
  rcases bD_or p with hb | ⟨m, h1, h2, rfl⟩
  · exact g_ST X KOk.p s_D_24 (c_D_reqSide_x htr hb) d_D_shape_5 rfl ⟨Nat.le_of_ble_eq_true rfl, Nat.le_of_ble_eq_true rfl, Nat.le_of_ble_eq_true rfl, Nat.le_of_ble_eq_true rfl⟩ ⟨rfl, rfl⟩
  refine g_SP X KOk.p s_D_24 (c_D_reqSide htr h1 h2) d_D_shape_5 rfl ⟨Nat.le_of_ble_eq_true rfl, Nat.le_of_ble_eq_true rfl, Nat.le_of_ble_eq_true rfl, Nat.le_of_ble_eq_true rfl⟩ ?_
  refine g_iload_n X 3 d_D_shape_8 rfl rfl ?_
  rcases h with h | h | h
  · exact absurd h (bR_no hr)
  · exact absurd h (bD_no h1 h2)
  · exact g_ST X KOk.p s_D_24 (c_D_reqSide_x htr h) d_D_shape_9 rfl ⟨Nat.le_of_ble_eq_true rfl, Nat.le_of_ble_eq_true rfl, Nat.le_of_ble_eq_true rfl, Nat.le_of_ble_eq_true rfl⟩ ⟨rfl, rfl⟩
set_option maxHeartbeats 4000000 in
set_option maxRecDepth 100000 in
theorem c_D_put {l : Launch} (htr : l.stackTraces = false) {δ : EX} {ad : Nat → Nat} {M : DS} (hinj : Inj ad) {r i j : Nat} {v : Int64} (hr : r < 6) (hi : i < (M r).1) (hj : j < (M r).2.1) (h1 : (M r).1 ≤ 8) (h2 : (M r).2.1 ≤ 8) (hv : inR v = true) : CTN l y_D_put cw_D_put (RM 2) δ (Ar ad) (dl δ ad M) [.ref (ad 0), .int (nI r), .int (nI i), .int (nI j), .long v] none (dl δ ad (va_up M r (mEnter (M r) (8 * i + j) v))) := by
  refine CT.ofN (lv := [(0, .ref (ad 0)), (1, .int (nI r)), (2, .int (nI i)), (3, .int (nI j)), (4, .long v)]) (Or.inl ⟨rfl, rfl⟩) (by decide) htr rfl (Nat.le_of_ble_eq_true rfl) (fun κ hl X => ?_)
  subst hl
  refine g_aload_n X 0 d_D_put_0 rfl rfl ?_
  refine g_iload_n X 1 d_D_put_1 rfl rfl ?_
  refine g_iload_n X 2 d_D_put_2 rfl rfl ?_
  refine g_iload_n X 3 d_D_put_3 rfl rfl ?_
  refine g_VP X KOk.n v_D_31 (dl_0) rfl (c_D_reqPl htr hr hi hj h1 h2) d_D_put_4 rfl ⟨Nat.le_of_ble_eq_true rfl, Nat.le_of_ble_eq_true rfl, Nat.le_of_ble_eq_true rfl, Nat.le_of_ble_eq_true rfl⟩ ?_
  refine g_lload X d_D_put_7 rfl ?_
  refine g_SP X KOk.n s_D_35 (c_D_reqVal htr hv) d_D_put_9 rfl ⟨Nat.le_of_ble_eq_true rfl, Nat.le_of_ble_eq_true rfl, Nat.le_of_ble_eq_true rfl, Nat.le_of_ble_eq_true rfl⟩ ?_
  refine g_aload_n X 0 d_D_put_12 rfl rfl ?_
  refine r_regs X d_D_put_13 ?_
  refine g_iload_n X 1 d_D_put_16 rfl rfl ?_
  refine r_aald X rfl (by omega) d_D_put_17 ?_
  refine g_iload_n X 2 d_D_put_18 rfl rfl ?_
  refine g_iload_n X 3 d_D_put_19 rfl rfl ?_
  refine g_lload X d_D_put_20 rfl ?_
  refine g_VN1 X v_D_39 (dl_m (by omega)) rfl (c_M_enter htr hinj (by omega) (by omega) (by omega)) d_D_put_22 rfl ⟨Nat.le_of_ble_eq_true rfl, Nat.le_of_ble_eq_true rfl, Nat.le_of_ble_eq_true rfl, Nat.le_of_ble_eq_true rfl⟩ ?_
  exact g_vret X KOk.n d_D_put_25 ⟨rfl, rfl⟩
set_option maxHeartbeats 4000000 in
set_option maxRecDepth 100000 in
theorem c_D_put_x1 {l : Launch} (htr : l.stackTraces = false) {δ : EX} {ad : Nat → Nat} {M : DS} {x i j : Int32} {v : Int64} (hx : bR x) : CTP l y_D_put cw_D_put (RM 2) δ (dl δ ad M) [.ref (ad 0), .int x, .int i, .int j, .long v] (.inl 1) := by
  refine CT.ofP (lv := [(0, .ref (ad 0)), (1, .int x), (2, .int i), (3, .int j), (4, .long v)]) (Or.inl ⟨rfl, rfl⟩) (by decide) htr rfl (Nat.le_of_ble_eq_true rfl) (fun κ hl X => ?_)
  subst hl
  refine g_aload_n X 0 d_D_put_0 rfl rfl ?_
  refine g_iload_n X 1 d_D_put_1 rfl rfl ?_
  refine g_iload_n X 2 d_D_put_2 rfl rfl ?_
  refine g_iload_n X 3 d_D_put_3 rfl rfl ?_
  exact g_VT X KOk.p v_D_31 (dl_0) rfl (c_D_reqPl_x1 htr hx) d_D_put_4 rfl ⟨Nat.le_of_ble_eq_true rfl, Nat.le_of_ble_eq_true rfl, Nat.le_of_ble_eq_true rfl, Nat.le_of_ble_eq_true rfl⟩ ⟨rfl, rfl⟩
set_option maxHeartbeats 4000000 in
set_option maxRecDepth 100000 in
theorem c_D_put_x2 {l : Launch} (htr : l.stackTraces = false) {δ : EX} {ad : Nat → Nat} {M : DS} {r : Nat} {i j : Int32} {v : Int64} (hr : r < 6) (h : i < 0 ∨ nI (M r).1 ≤ i ∨ j < 0 ∨ nI (M r).2.1 ≤ j) : CTP l y_D_put cw_D_put (RM 2) δ (dl δ ad M) [.ref (ad 0), .int (nI r), .int i, .int j, .long v] (.inl 1) := by
  refine CT.ofP (lv := [(0, .ref (ad 0)), (1, .int (nI r)), (2, .int i), (3, .int j), (4, .long v)]) (Or.inl ⟨rfl, rfl⟩) (by decide) htr rfl (Nat.le_of_ble_eq_true rfl) (fun κ hl X => ?_)
  subst hl
  refine g_aload_n X 0 d_D_put_0 rfl rfl ?_
  refine g_iload_n X 1 d_D_put_1 rfl rfl ?_
  refine g_iload_n X 2 d_D_put_2 rfl rfl ?_
  refine g_iload_n X 3 d_D_put_3 rfl rfl ?_
  exact g_VT X KOk.p v_D_31 (dl_0) rfl (c_D_reqPl_x2 htr hr h) d_D_put_4 rfl ⟨Nat.le_of_ble_eq_true rfl, Nat.le_of_ble_eq_true rfl, Nat.le_of_ble_eq_true rfl, Nat.le_of_ble_eq_true rfl⟩ ⟨rfl, rfl⟩
set_option maxHeartbeats 4000000 in
set_option maxRecDepth 100000 in
theorem c_D_put_x3 {l : Launch} (htr : l.stackTraces = false) {δ : EX} {ad : Nat → Nat} {M : DS} {r i j : Nat} {v : Int64} (hr : r < 6) (hi : i < (M r).1) (hj : j < (M r).2.1) (h1 : (M r).1 ≤ 8) (h2 : (M r).2.1 ≤ 8) (hv : inR v = false) : CTP l y_D_put cw_D_put (RM 2) δ (dl δ ad M) [.ref (ad 0), .int (nI r), .int (nI i), .int (nI j), .long v] (.inl 1) := by
  refine CT.ofP (lv := [(0, .ref (ad 0)), (1, .int (nI r)), (2, .int (nI i)), (3, .int (nI j)), (4, .long v)]) (Or.inl ⟨rfl, rfl⟩) (by decide) htr rfl (Nat.le_of_ble_eq_true rfl) (fun κ hl X => ?_)
  subst hl
  refine g_aload_n X 0 d_D_put_0 rfl rfl ?_
  refine g_iload_n X 1 d_D_put_1 rfl rfl ?_
  refine g_iload_n X 2 d_D_put_2 rfl rfl ?_
  refine g_iload_n X 3 d_D_put_3 rfl rfl ?_
  refine g_VP X KOk.p v_D_31 (dl_0) rfl (c_D_reqPl htr hr hi hj h1 h2) d_D_put_4 rfl ⟨Nat.le_of_ble_eq_true rfl, Nat.le_of_ble_eq_true rfl, Nat.le_of_ble_eq_true rfl, Nat.le_of_ble_eq_true rfl⟩ ?_
  refine g_lload X d_D_put_7 rfl ?_
  exact g_ST X KOk.p s_D_35 (c_D_reqVal_x htr hv) d_D_put_9 rfl ⟨Nat.le_of_ble_eq_true rfl, Nat.le_of_ble_eq_true rfl, Nat.le_of_ble_eq_true rfl, Nat.le_of_ble_eq_true rfl⟩ ⟨rfl, rfl⟩
set_option maxHeartbeats 4000000 in
set_option maxRecDepth 100000 in
theorem c_D_drop {l : Launch} (htr : l.stackTraces = false) {δ : EX} {ad : Nat → Nat} {M : DS} (hinj : Inj ad) {r i j : Nat} (hr : r < 6) (hi : i < (M r).1) (hj : j < (M r).2.1) (h1 : (M r).1 ≤ 8) (h2 : (M r).2.1 ≤ 8) : CTN l y_D_drop cw_D_drop (RM 2) δ (Ar ad) (dl δ ad M) [.ref (ad 0), .int (nI r), .int (nI i), .int (nI j)] (some (.int (b2 (mHas (M r) (8 * i + j))))) (dl δ ad (va_up M r (mRem (M r) (8 * i + j)))) := by
  refine CT.ofN (lv := [(0, .ref (ad 0)), (1, .int (nI r)), (2, .int (nI i)), (3, .int (nI j))]) (Or.inl ⟨rfl, rfl⟩) (by decide) htr rfl (Nat.le_of_ble_eq_true rfl) (fun κ hl X => ?_)
  subst hl
  refine g_aload_n X 0 d_D_drop_0 rfl rfl ?_
  refine g_iload_n X 1 d_D_drop_1 rfl rfl ?_
  refine g_iload_n X 2 d_D_drop_2 rfl rfl ?_
  refine g_iload_n X 3 d_D_drop_3 rfl rfl ?_
  refine g_VP X KOk.n v_D_31 (dl_0) rfl (c_D_reqPl htr hr hi hj h1 h2) d_D_drop_4 rfl ⟨Nat.le_of_ble_eq_true rfl, Nat.le_of_ble_eq_true rfl, Nat.le_of_ble_eq_true rfl, Nat.le_of_ble_eq_true rfl⟩ ?_
  refine g_aload_n X 0 d_D_drop_7 rfl rfl ?_
  refine r_regs X d_D_drop_8 ?_
  refine g_iload_n X 1 d_D_drop_11 rfl rfl ?_
  refine r_aald X rfl (by omega) d_D_drop_12 ?_
  refine g_iload_n X 2 d_D_drop_13 rfl rfl ?_
  refine g_iload_n X 3 d_D_drop_14 rfl rfl ?_
  refine g_VP X KOk.n v_D_43 (dl_m (by omega)) rfl (c_M_has htr (by omega) (by omega) (by omega)) d_D_drop_15 rfl ⟨Nat.le_of_ble_eq_true rfl, Nat.le_of_ble_eq_true rfl, Nat.le_of_ble_eq_true rfl, Nat.le_of_ble_eq_true rfl⟩ ?_
  refine g_istore X d_D_drop_18 (by decide) ?_
  refine g_aload_n X 0 d_D_drop_20 rfl rfl ?_
  refine r_regs X d_D_drop_21 ?_
  refine g_iload_n X 1 d_D_drop_24 rfl rfl ?_
  refine r_aald X rfl (by omega) d_D_drop_25 ?_
  refine g_iload_n X 2 d_D_drop_26 rfl rfl ?_
  refine g_iload_n X 3 d_D_drop_27 rfl rfl ?_
  refine g_VN1 X v_D_47 (dl_m (by omega)) rfl (c_M_remove htr hinj (by omega) (by omega) (by omega)) d_D_drop_28 rfl ⟨Nat.le_of_ble_eq_true rfl, Nat.le_of_ble_eq_true rfl, Nat.le_of_ble_eq_true rfl, Nat.le_of_ble_eq_true rfl⟩ ?_
  refine g_iload X d_D_drop_31 rfl ?_
  exact g_zret X KOk.n (b2_nar _) d_D_drop_33 ⟨rfl, rfl⟩
set_option maxHeartbeats 4000000 in
set_option maxRecDepth 100000 in
theorem c_D_drop_x1 {l : Launch} (htr : l.stackTraces = false) {δ : EX} {ad : Nat → Nat} {M : DS} {x i j : Int32} (hx : bR x) : CTP l y_D_drop cw_D_drop (RM 2) δ (dl δ ad M) [.ref (ad 0), .int x, .int i, .int j] (.inl 1) := by
  refine CT.ofP (lv := [(0, .ref (ad 0)), (1, .int x), (2, .int i), (3, .int j)]) (Or.inl ⟨rfl, rfl⟩) (by decide) htr rfl (Nat.le_of_ble_eq_true rfl) (fun κ hl X => ?_)
  subst hl
  refine g_aload_n X 0 d_D_drop_0 rfl rfl ?_
  refine g_iload_n X 1 d_D_drop_1 rfl rfl ?_
  refine g_iload_n X 2 d_D_drop_2 rfl rfl ?_
  refine g_iload_n X 3 d_D_drop_3 rfl rfl ?_
  exact g_VT X KOk.p v_D_31 (dl_0) rfl (c_D_reqPl_x1 htr hx) d_D_drop_4 rfl ⟨Nat.le_of_ble_eq_true rfl, Nat.le_of_ble_eq_true rfl, Nat.le_of_ble_eq_true rfl, Nat.le_of_ble_eq_true rfl⟩ ⟨rfl, rfl⟩
set_option maxHeartbeats 4000000 in
set_option maxRecDepth 100000 in
theorem c_D_drop_x2 {l : Launch} (htr : l.stackTraces = false) {δ : EX} {ad : Nat → Nat} {M : DS} {r : Nat} {i j : Int32} (hr : r < 6) (h : i < 0 ∨ nI (M r).1 ≤ i ∨ j < 0 ∨ nI (M r).2.1 ≤ j) : CTP l y_D_drop cw_D_drop (RM 2) δ (dl δ ad M) [.ref (ad 0), .int (nI r), .int i, .int j] (.inl 1) := by
  refine CT.ofP (lv := [(0, .ref (ad 0)), (1, .int (nI r)), (2, .int i), (3, .int j)]) (Or.inl ⟨rfl, rfl⟩) (by decide) htr rfl (Nat.le_of_ble_eq_true rfl) (fun κ hl X => ?_)
  subst hl
  refine g_aload_n X 0 d_D_drop_0 rfl rfl ?_
  refine g_iload_n X 1 d_D_drop_1 rfl rfl ?_
  refine g_iload_n X 2 d_D_drop_2 rfl rfl ?_
  refine g_iload_n X 3 d_D_drop_3 rfl rfl ?_
  exact g_VT X KOk.p v_D_31 (dl_0) rfl (c_D_reqPl_x2 htr hr h) d_D_drop_4 rfl ⟨Nat.le_of_ble_eq_true rfl, Nat.le_of_ble_eq_true rfl, Nat.le_of_ble_eq_true rfl, Nat.le_of_ble_eq_true rfl⟩ ⟨rfl, rfl⟩
set_option maxHeartbeats 4000000 in
set_option maxRecDepth 100000 in
theorem c_D_at {l : Launch} (htr : l.stackTraces = false) {δ : EX} {ad : Nat → Nat} {M : DS} {r i j : Nat} (hr : r < 6) (hi : i < (M r).1) (hj : j < (M r).2.1) (h1 : (M r).1 ≤ 8) (h2 : (M r).2.1 ≤ 8) (hh : mHas (M r) (8 * i + j) = true) : CTP l y_D_at cw_D_at (RM 2) δ (dl δ ad M) [.ref (ad 0), .int (nI r), .int (nI i), .int (nI j)] (.inr (some (.long (mVal (M r) (8 * i + j))))) := by
  refine CT.ofP (lv := [(0, .ref (ad 0)), (1, .int (nI r)), (2, .int (nI i)), (3, .int (nI j))]) (Or.inl ⟨rfl, rfl⟩) (by decide) htr rfl (Nat.le_of_ble_eq_true rfl) (fun κ hl X => ?_)
  subst hl
  refine g_aload_n X 0 d_D_at_0 rfl rfl ?_
  refine g_iload_n X 1 d_D_at_1 rfl rfl ?_
  refine g_iload_n X 2 d_D_at_2 rfl rfl ?_
  refine g_iload_n X 3 d_D_at_3 rfl rfl ?_
  refine g_VP X KOk.p v_D_31 (dl_0) rfl (c_D_reqPl htr hr hi hj h1 h2) d_D_at_4 rfl ⟨Nat.le_of_ble_eq_true rfl, Nat.le_of_ble_eq_true rfl, Nat.le_of_ble_eq_true rfl, Nat.le_of_ble_eq_true rfl⟩ ?_
  refine g_aload_n X 0 d_D_at_7 rfl rfl ?_
  refine r_regs X d_D_at_8 ?_
  refine g_iload_n X 1 d_D_at_11 rfl rfl ?_
  refine r_aald X rfl (by omega) d_D_at_12 ?_
  refine g_iload_n X 2 d_D_at_13 rfl rfl ?_
  refine g_iload_n X 3 d_D_at_14 rfl rfl ?_
  refine g_VP X KOk.p v_D_43 (dl_m (by omega)) rfl (c_M_has htr (by omega) (by omega) (by omega)) d_D_at_15 rfl ⟨Nat.le_of_ble_eq_true rfl, Nat.le_of_ble_eq_true rfl, Nat.le_of_ble_eq_true rfl, Nat.le_of_ble_eq_true rfl⟩ ?_
  refine g_SP X KOk.p s_D_50 (c_D_reqEntry htr hh) d_D_at_18 rfl ⟨Nat.le_of_ble_eq_true rfl, Nat.le_of_ble_eq_true rfl, Nat.le_of_ble_eq_true rfl, Nat.le_of_ble_eq_true rfl⟩ ?_
  refine g_aload_n X 0 d_D_at_21 rfl rfl ?_
  refine r_regs X d_D_at_22 ?_
  refine g_iload_n X 1 d_D_at_25 rfl rfl ?_
  refine r_aald X rfl (by omega) d_D_at_26 ?_
  refine g_iload_n X 2 d_D_at_27 rfl rfl ?_
  refine g_iload_n X 3 d_D_at_28 rfl rfl ?_
  refine g_VP X KOk.p v_D_54 (dl_m (by omega)) rfl (c_M_value htr (by omega) (by omega) (by omega)) d_D_at_29 rfl ⟨Nat.le_of_ble_eq_true rfl, Nat.le_of_ble_eq_true rfl, Nat.le_of_ble_eq_true rfl, Nat.le_of_ble_eq_true rfl⟩ ?_
  exact g_lret X KOk.p d_D_at_32 ⟨rfl, rfl⟩
set_option maxHeartbeats 4000000 in
set_option maxRecDepth 100000 in
theorem c_D_at_x1 {l : Launch} (htr : l.stackTraces = false) {δ : EX} {ad : Nat → Nat} {M : DS} {x i j : Int32} (hx : bR x) : CTP l y_D_at cw_D_at (RM 2) δ (dl δ ad M) [.ref (ad 0), .int x, .int i, .int j] (.inl 1) := by
  refine CT.ofP (lv := [(0, .ref (ad 0)), (1, .int x), (2, .int i), (3, .int j)]) (Or.inl ⟨rfl, rfl⟩) (by decide) htr rfl (Nat.le_of_ble_eq_true rfl) (fun κ hl X => ?_)
  subst hl
  refine g_aload_n X 0 d_D_at_0 rfl rfl ?_
  refine g_iload_n X 1 d_D_at_1 rfl rfl ?_
  refine g_iload_n X 2 d_D_at_2 rfl rfl ?_
  refine g_iload_n X 3 d_D_at_3 rfl rfl ?_
  exact g_VT X KOk.p v_D_31 (dl_0) rfl (c_D_reqPl_x1 htr hx) d_D_at_4 rfl ⟨Nat.le_of_ble_eq_true rfl, Nat.le_of_ble_eq_true rfl, Nat.le_of_ble_eq_true rfl, Nat.le_of_ble_eq_true rfl⟩ ⟨rfl, rfl⟩
set_option maxHeartbeats 4000000 in
set_option maxRecDepth 100000 in
theorem c_D_at_x2 {l : Launch} (htr : l.stackTraces = false) {δ : EX} {ad : Nat → Nat} {M : DS} {r : Nat} {i j : Int32} (hr : r < 6) (h : i < 0 ∨ nI (M r).1 ≤ i ∨ j < 0 ∨ nI (M r).2.1 ≤ j) : CTP l y_D_at cw_D_at (RM 2) δ (dl δ ad M) [.ref (ad 0), .int (nI r), .int i, .int j] (.inl 1) := by
  refine CT.ofP (lv := [(0, .ref (ad 0)), (1, .int (nI r)), (2, .int i), (3, .int j)]) (Or.inl ⟨rfl, rfl⟩) (by decide) htr rfl (Nat.le_of_ble_eq_true rfl) (fun κ hl X => ?_)
  subst hl
  refine g_aload_n X 0 d_D_at_0 rfl rfl ?_
  refine g_iload_n X 1 d_D_at_1 rfl rfl ?_
  refine g_iload_n X 2 d_D_at_2 rfl rfl ?_
  refine g_iload_n X 3 d_D_at_3 rfl rfl ?_
  exact g_VT X KOk.p v_D_31 (dl_0) rfl (c_D_reqPl_x2 htr hr h) d_D_at_4 rfl ⟨Nat.le_of_ble_eq_true rfl, Nat.le_of_ble_eq_true rfl, Nat.le_of_ble_eq_true rfl, Nat.le_of_ble_eq_true rfl⟩ ⟨rfl, rfl⟩
set_option maxHeartbeats 4000000 in
set_option maxRecDepth 100000 in
theorem c_D_at_x3 {l : Launch} (htr : l.stackTraces = false) {δ : EX} {ad : Nat → Nat} {M : DS} {r i j : Nat} (hr : r < 6) (hi : i < (M r).1) (hj : j < (M r).2.1) (h1 : (M r).1 ≤ 8) (h2 : (M r).2.1 ≤ 8) (hh : mHas (M r) (8 * i + j) = false) : CTP l y_D_at cw_D_at (RM 2) δ (dl δ ad M) [.ref (ad 0), .int (nI r), .int (nI i), .int (nI j)] (.inl 3) := by
  refine CT.ofP (lv := [(0, .ref (ad 0)), (1, .int (nI r)), (2, .int (nI i)), (3, .int (nI j))]) (Or.inl ⟨rfl, rfl⟩) (by decide) htr rfl (Nat.le_of_ble_eq_true rfl) (fun κ hl X => ?_)
  subst hl
  refine g_aload_n X 0 d_D_at_0 rfl rfl ?_
  refine g_iload_n X 1 d_D_at_1 rfl rfl ?_
  refine g_iload_n X 2 d_D_at_2 rfl rfl ?_
  refine g_iload_n X 3 d_D_at_3 rfl rfl ?_
  refine g_VP X KOk.p v_D_31 (dl_0) rfl (c_D_reqPl htr hr hi hj h1 h2) d_D_at_4 rfl ⟨Nat.le_of_ble_eq_true rfl, Nat.le_of_ble_eq_true rfl, Nat.le_of_ble_eq_true rfl, Nat.le_of_ble_eq_true rfl⟩ ?_
  refine g_aload_n X 0 d_D_at_7 rfl rfl ?_
  refine r_regs X d_D_at_8 ?_
  refine g_iload_n X 1 d_D_at_11 rfl rfl ?_
  refine r_aald X rfl (by omega) d_D_at_12 ?_
  refine g_iload_n X 2 d_D_at_13 rfl rfl ?_
  refine g_iload_n X 3 d_D_at_14 rfl rfl ?_
  refine g_VP X KOk.p v_D_43 (dl_m (by omega)) rfl (c_M_has htr (by omega) (by omega) (by omega)) d_D_at_15 rfl ⟨Nat.le_of_ble_eq_true rfl, Nat.le_of_ble_eq_true rfl, Nat.le_of_ble_eq_true rfl, Nat.le_of_ble_eq_true rfl⟩ ?_
  exact g_ST X KOk.p s_D_50 (c_D_reqEntry_x htr hh) d_D_at_18 rfl ⟨Nat.le_of_ble_eq_true rfl, Nat.le_of_ble_eq_true rfl, Nat.le_of_ble_eq_true rfl, Nat.le_of_ble_eq_true rfl⟩ ⟨rfl, rfl⟩
set_option maxHeartbeats 4000000 in
set_option maxRecDepth 100000 in
theorem c_D_size {l : Launch} (htr : l.stackTraces = false) {δ : EX} {ad : Nat → Nat} {M : DS} {r : Nat} (hr : r < 6) : CTP l y_D_size cw_D_size (RM 2) δ (dl δ ad M) [.ref (ad 0), .int (nI r)] (.inr (some (.int (nI ((M r).1 + 16 * (M r).2.1 + 256 * cnt (M r).2.2.2 64))))) := by
  refine CT.ofP (lv := [(0, .ref (ad 0)), (1, .int (nI r))]) (Or.inl ⟨rfl, rfl⟩) (by decide) htr rfl (Nat.le_of_ble_eq_true rfl) (fun κ hl X => ?_)
  subst hl
  refine g_iload_n X 1 d_D_size_0 rfl rfl ?_
  refine g_SP X KOk.p s_D_20 (c_D_reqReg htr hr) d_D_size_1 rfl ⟨Nat.le_of_ble_eq_true rfl, Nat.le_of_ble_eq_true rfl, Nat.le_of_ble_eq_true rfl, Nat.le_of_ble_eq_true rfl⟩ ?_
  refine g_aload_n X 0 d_D_size_4 rfl rfl ?_
  refine r_regs X d_D_size_5 ?_
  refine g_iload_n X 1 d_D_size_8 rfl rfl ?_
  refine r_aald X rfl (by omega) d_D_size_9 ?_
  refine g_astore_n X 2 d_D_size_10 rfl (by decide) ?_
  refine g_aload_n X 2 d_D_size_11 rfl rfl ?_
  refine r_rows X kf_D_58 d_D_size_12 (by omega) ?_
  refine g_bipush X (v := nI 16) d_D_size_15 (by decide) ?_
  refine g_aload_n X 2 d_D_size_17 rfl rfl ?_
  refine r_cols X kf_D_62 d_D_size_18 (by omega) ?_
  refine g_imul X d_D_size_21 ?_
  refine g_iadd X d_D_size_22 ?_
  refine g_sipush X (v := nI 256) d_D_size_23 (by decide) ?_
  refine g_aload_n X 2 d_D_size_26 rfl rfl ?_
  refine g_VP X KOk.p v_D_65 (dl_m (by omega)) rfl (c_M_count htr (by omega)) d_D_size_27 rfl ⟨Nat.le_of_ble_eq_true rfl, Nat.le_of_ble_eq_true rfl, Nat.le_of_ble_eq_true rfl, Nat.le_of_ble_eq_true rfl⟩ ?_
  refine g_imul X d_D_size_30 ?_
  refine g_iadd X d_D_size_31 ?_
  refine g_ei (y := nI ((M r).1 + 16 * (M r).2.1 + 256 * cnt (M r).2.2.2 64)) (by rw [pk_mul, pk_mul, nI_add, nI_add]) ?_
  exact g_iret X KOk.p d_D_size_32 ⟨rfl, rfl⟩
set_option maxHeartbeats 4000000 in
set_option maxRecDepth 100000 in
theorem c_D_size_x {l : Launch} (htr : l.stackTraces = false) {δ : EX} {ad : Nat → Nat} {M : DS} {x : Int32} (hx : bR x) : CTP l y_D_size cw_D_size (RM 2) δ (dl δ ad M) [.ref (ad 0), .int x] (.inl 1) := by
  refine CT.ofP (lv := [(0, .ref (ad 0)), (1, .int x)]) (Or.inl ⟨rfl, rfl⟩) (by decide) htr rfl (Nat.le_of_ble_eq_true rfl) (fun κ hl X => ?_)
  subst hl
  refine g_iload_n X 1 d_D_size_0 rfl rfl ?_
  exact g_ST X KOk.p s_D_20 (c_D_reqReg_x htr hx) d_D_size_1 rfl ⟨Nat.le_of_ble_eq_true rfl, Nat.le_of_ble_eq_true rfl, Nat.le_of_ble_eq_true rfl, Nat.le_of_ble_eq_true rfl⟩ ⟨rfl, rfl⟩
end PA
end
section
section PB
/-- the desk when the spare matrix S has become the register to -/
def KW (δ : EX) (ad : Nat → Nat) (to : Nat) (M : DS) (S : Mx) : va_W := dl δ (fun i => ad (swB to i)) (fun k => va_up M 6 S (sw to k))
def PS (δ : EX) (ad : Nat → Nat) (M : DS) (to : Nat) (o : Option Mx) : OC → va_W → Prop := fun r w => (∃ S, o = some S ∧ r = .inr (some (.int (nI (cnt S.2.2.2 64)))) ∧ w = KW δ ad to M S) ∨ (o = none ∧ r = .inl 4 ∧ ∃ S, w = dl δ ad (va_up M 6 S))
def sej (h : Nat) (x : Int64) (F : Mx) (i j : Nat) (S : Mx) : Mx := if mHas F (8 * i + j) = true ∧ seB h i j (mVal F (8 * i + j)) x = true then mEnter S (8 * i + j) (mVal F (8 * i + j)) else S
def sei (h : Nat) (x : Int64) (F : Mx) (i : Nat) (S : Mx) : Mx := fl (sej h x F i) 0 F.2.1 S
def rdj (k : Nat) (F : Mx) (i j : Nat) (S : Mx) : Option Mx := if mHas F (8 * i + j) = true then gaS k S (8 * 0 + 0) (mVal F (8 * i + j)) else some S
def rdi (k : Nat) (F : Mx) (i : Nat) (S : Mx) : Option Mx := fo (rdj k F i) 0 F.2.1 S
set_option maxHeartbeats 4000000 in
set_option maxRecDepth 100000 in
theorem l_D_tr_j {κ : KX} {δ : EX} {ad : Nat → Nat} (X : XO κ R_D b_D_transpose 7 (some .int) δ (RM 2) (Ar ad) []) (htr : (xl κ).stackTraces = false) (hinj : Inj ad) {M : DS} {P' : OC → va_W → Prop} {a to : Nat} (ha : a < 6) (h7 : (M a).1 ≤ 8) (h8 : (M a).2.1 ≤ 8) {i : Nat} (hi : i < 8) : ∀ n j S, j + n = (M a).2.1 → G κ 7 δ (Kn κ (Ar ad)) (Qe κ δ (Ar ad) P') 0 0 (dl δ ad (va_up M 6 (fl (trj (M a) i) j n S))) [(5, .int (nI i)), (0, .ref (ad 0)), (1, .int (nI to)), (3, .ref (mq ad a)), (4, .ref (mq ad 6))] [] 87 → G κ 7 δ (Kn κ (Ar ad)) (Qe κ δ (Ar ad) P') 0 0 (dl δ ad (va_up M 6 S)) [(6, .int (nI j)), (5, .int (nI i)), (0, .ref (ad 0)), (1, .int (nI to)), (3, .ref (mq ad a)), (4, .ref (mq ad 6))] [] 44 := by
  intro n
  induction n with
  | zero =>
    intro j S hj hx
    refine g_iload X d_D_transpose_44 rfl ?_
    refine g_aload_n X 3 d_D_transpose_46 rfl rfl ?_
    refine r_cols X kf_D_62 d_D_transpose_47 (by omega) ?_
    rw [va_up6 ha]
    refine g_icmp_ge X 87 d_D_transpose_50 (by decide) (fun hc => ?_) (fun hc => ?_)
    · exact g_sb hx ⟨rfl, rfl, rfl, rfl, rfl, trivial⟩
    · exact absurd (nI_le (by omega) (by omega)) hc
  | succ n ih =>
    intro j S hj hx
    refine g_iload X d_D_transpose_44 rfl ?_
    refine g_aload_n X 3 d_D_transpose_46 rfl rfl ?_
    refine r_cols X kf_D_62 d_D_transpose_47 (by omega) ?_
    rw [va_up6 ha]
    refine g_icmp_ge X 87 d_D_transpose_50 (by decide) (fun hc => ?_) (fun hc => ?_)
    · exact absurd hc (nI_ge (by omega) (by omega))
    · clear hc
      refine g_aload_n X 3 d_D_transpose_53 rfl rfl ?_
      refine g_iload X d_D_transpose_54 rfl ?_
      refine g_iload X d_D_transpose_56 rfl ?_
      refine g_VP X KOk.n v_D_43 (dl_m (by omega)) rfl (c_M_has htr (by omega) hi (by omega)) d_D_transpose_58 rfl ⟨Nat.le_of_ble_eq_true rfl, Nat.le_of_ble_eq_true rfl, Nat.le_of_ble_eq_true rfl, Nat.le_of_ble_eq_true rfl⟩ ?_
      rw [va_up6 ha]
      refine g_if_eq X 81 d_D_transpose_61 (by decide) (fun hc => ?_) (fun hc => ?_)
      · have h := b2_0.mp hc
        have e : trj (M a) i j S = S := by simp [trj, h]
        simp only [fl, e] at hx
        refine g_iinc X d_D_transpose_81 rfl (nI_1 _) (by decide) ?_
        refine g_goto X 44 d_D_transpose_84 (by decide) ?_
        exact g_sb (ih (j + 1) S (by omega) hx) ⟨rfl, rfl, rfl, rfl, rfl, rfl, trivial⟩
      · have h := b2_t hc
        have e : trj (M a) i j S = mEnter S (8 * j + i) (mVal (M a) (8 * i + j)) := by simp [trj, h]
        simp only [fl, e] at hx
        refine g_aload X d_D_transpose_64 rfl ?_
        refine g_iload X d_D_transpose_66 rfl ?_
        refine g_iload X d_D_transpose_68 rfl ?_
        refine g_aload_n X 3 d_D_transpose_70 rfl rfl ?_
        refine g_iload X d_D_transpose_71 rfl ?_
        refine g_iload X d_D_transpose_73 rfl ?_
        refine g_VP X KOk.n v_D_54 (dl_m (by omega)) rfl (c_M_value htr (by omega) hi (by omega)) d_D_transpose_75 rfl ⟨Nat.le_of_ble_eq_true rfl, Nat.le_of_ble_eq_true rfl, Nat.le_of_ble_eq_true rfl, Nat.le_of_ble_eq_true rfl⟩ ?_
        rw [va_up6 ha]
        refine g_VN1 X v_D_39 (dl_m (by omega)) rfl (c_M_enter htr hinj (by omega) (by omega) hi) d_D_transpose_78 rfl ⟨Nat.le_of_ble_eq_true rfl, Nat.le_of_ble_eq_true rfl, Nat.le_of_ble_eq_true rfl, Nat.le_of_ble_eq_true rfl⟩ ?_
        rw [va_up_s, bx_uu]
        refine g_iinc X d_D_transpose_81 rfl (nI_1 _) (by decide) ?_
        refine g_goto X 44 d_D_transpose_84 (by decide) ?_
        exact g_sb (ih (j + 1) _ (by omega) hx) ⟨rfl, rfl, rfl, rfl, rfl, rfl, trivial⟩
set_option maxHeartbeats 4000000 in
set_option maxRecDepth 100000 in
theorem l_D_tr_i {κ : KX} {δ : EX} {ad : Nat → Nat} (X : XO κ R_D b_D_transpose 7 (some .int) δ (RM 2) (Ar ad) []) (htr : (xl κ).stackTraces = false) (hinj : Inj ad) {M : DS} {P' : OC → va_W → Prop} {a to : Nat} (ha : a < 6) (h7 : (M a).1 ≤ 8) (h8 : (M a).2.1 ≤ 8) : ∀ n i S, i + n = (M a).1 → G κ 7 δ (Kn κ (Ar ad)) (Qe κ δ (Ar ad) P') 0 0 (dl δ ad (va_up M 6 (fl (tri (M a)) i n S))) [(0, .ref (ad 0)), (1, .int (nI to)), (3, .ref (mq ad a)), (4, .ref (mq ad 6))] [] 93 → G κ 7 δ (Kn κ (Ar ad)) (Qe κ δ (Ar ad) P') 0 0 (dl δ ad (va_up M 6 S)) [(5, .int (nI i)), (0, .ref (ad 0)), (1, .int (nI to)), (3, .ref (mq ad a)), (4, .ref (mq ad 6))] [] 32 := by
  intro n
  induction n with
  | zero =>
    intro i S hi hx
    refine g_iload X d_D_transpose_32 rfl ?_
    refine g_aload_n X 3 d_D_transpose_34 rfl rfl ?_
    refine r_rows X kf_D_58 d_D_transpose_35 (by omega) ?_
    rw [va_up6 ha]
    refine g_icmp_ge X 93 d_D_transpose_38 (by decide) (fun hc => ?_) (fun hc => ?_)
    · exact g_sb hx ⟨rfl, rfl, rfl, rfl, trivial⟩
    · exact absurd (nI_le (by omega) (by omega)) hc
  | succ n ih =>
    intro i S hi hx
    refine g_iload X d_D_transpose_32 rfl ?_
    refine g_aload_n X 3 d_D_transpose_34 rfl rfl ?_
    refine r_rows X kf_D_58 d_D_transpose_35 (by omega) ?_
    rw [va_up6 ha]
    refine g_icmp_ge X 93 d_D_transpose_38 (by decide) (fun hc => ?_) (fun hc => ?_)
    · exact absurd hc (nI_ge (by omega) (by omega))
    · clear hc
      refine g_iconst X (v := nI 0) d_D_transpose_41 (by decide) ?_
      refine g_istore X d_D_transpose_42 (by decide) ?_
      refine g_sb (l_D_tr_j X htr hinj ha h7 h8 (by omega) (M a).2.1 0 S (by omega) ?_) ⟨rfl, rfl, rfl, rfl, rfl, rfl, trivial⟩
      refine g_iinc X d_D_transpose_87 rfl (nI_1 _) (by decide) ?_
      refine g_goto X 32 d_D_transpose_90 (by decide) ?_
      exact g_sb (ih (i + 1) _ (by omega) hx) ⟨rfl, rfl, rfl, rfl, rfl, trivial⟩
set_option maxHeartbeats 4000000 in
set_option maxRecDepth 100000 in
theorem c_D_transpose {l : Launch} (htr : l.stackTraces = false) {δ : EX} {ad : Nat → Nat} {M : DS} (hinj : Inj ad) {to a : Nat} (hto : to < 6) (ha : a < 6) (h7 : (M a).1 ≤ 8) (h8 : (M a).2.1 ≤ 8) : CTN l y_D_transpose cw_D_transpose (RM 2) δ (Ar ad) (dl δ ad M) [.ref (ad 0), .int (nI to), .int (nI a)] (some (.int (nI (cnt (tr (M a) (mClear (M 6) (M a).2.1 (M a).1)).2.2.2 64)))) (KW δ ad to M (tr (M a) (mClear (M 6) (M a).2.1 (M a).1))) := by
  refine CT.ofN (lv := [(0, .ref (ad 0)), (1, .int (nI to)), (2, .int (nI a))]) (Or.inl ⟨rfl, rfl⟩) (by decide) htr rfl (Nat.le_of_ble_eq_true rfl) (fun κ hl X => ?_)
  subst hl
  refine g_iload_n X 1 d_D_transpose_0 rfl rfl ?_
  refine g_SP X KOk.n s_D_20 (c_D_reqReg htr hto) d_D_transpose_1 rfl ⟨Nat.le_of_ble_eq_true rfl, Nat.le_of_ble_eq_true rfl, Nat.le_of_ble_eq_true rfl, Nat.le_of_ble_eq_true rfl⟩ ?_
  refine g_iload_n X 2 d_D_transpose_4 rfl rfl ?_
  refine g_SP X KOk.n s_D_20 (c_D_reqReg htr ha) d_D_transpose_5 rfl ⟨Nat.le_of_ble_eq_true rfl, Nat.le_of_ble_eq_true rfl, Nat.le_of_ble_eq_true rfl, Nat.le_of_ble_eq_true rfl⟩ ?_
  refine g_aload_n X 0 d_D_transpose_8 rfl rfl ?_
  refine r_regs X d_D_transpose_9 ?_
  refine g_iload_n X 2 d_D_transpose_12 rfl rfl ?_
  refine r_aald X rfl (by omega) d_D_transpose_13 ?_
  refine g_astore_n X 3 d_D_transpose_14 rfl (by decide) ?_
  refine g_aload_n X 0 d_D_transpose_15 rfl rfl ?_
  refine g_aload_n X 3 d_D_transpose_16 rfl rfl ?_
  refine r_cols X kf_D_62 d_D_transpose_17 (by omega) ?_
  refine g_aload_n X 3 d_D_transpose_20 rfl rfl ?_
  refine r_rows X kf_D_58 d_D_transpose_21 (by omega) ?_
  refine g_VN1 X v_D_85 (dl_0) rfl (c_D_blank htr hinj) d_D_transpose_24 rfl ⟨Nat.le_of_ble_eq_true rfl, Nat.le_of_ble_eq_true rfl, Nat.le_of_ble_eq_true rfl, Nat.le_of_ble_eq_true rfl⟩ ?_
  refine g_astore X d_D_transpose_27 (by decide) ?_
  refine g_iconst X (v := nI 0) d_D_transpose_29 (by decide) ?_
  refine g_istore X d_D_transpose_30 (by decide) ?_
  refine g_sb (l_D_tr_i X htr hinj ha h7 h8 (M a).1 0 (mClear (M 6) (M a).2.1 (M a).1) (by omega) ?_) ⟨rfl, rfl, rfl, rfl, rfl, trivial⟩
  refine g_aload_n X 0 d_D_transpose_93 rfl rfl ?_
  refine g_iload_n X 1 d_D_transpose_94 rfl rfl ?_
  have hK := c_D_keep htr hinj (δ := δ) (M := va_up M 6 (fl (tri (M a)) 0 (M a).1 (mClear (M 6) (M a).2.1 (M a).1))) hto
  rw [va_up_s] at hK
  refine g_VN1 X v_D_101 (dl_0) rfl (hK) d_D_transpose_95 rfl ⟨Nat.le_of_ble_eq_true rfl, Nat.le_of_ble_eq_true rfl, Nat.le_of_ble_eq_true rfl, Nat.le_of_ble_eq_true rfl⟩ ?_
  exact g_iret X KOk.n d_D_transpose_98 ⟨rfl, rfl⟩
set_option maxHeartbeats 4000000 in
set_option maxRecDepth 100000 in
theorem c_D_transpose_x {l : Launch} (htr : l.stackTraces = false) {δ : EX} {ad : Nat → Nat} {M : DS} {x y : Int32} (h : bR x ∨ bR y) : CTP l y_D_transpose cw_D_transpose (RM 2) δ (dl δ ad M) [.ref (ad 0), .int x, .int y] (.inl 1) := by
  refine CT.ofP (lv := [(0, .ref (ad 0)), (1, .int x), (2, .int y)]) (Or.inl ⟨rfl, rfl⟩) (by decide) htr rfl (Nat.le_of_ble_eq_true rfl) (fun κ hl X => ?_)
  subst hl
  refine g_iload_n X 1 d_D_transpose_0 rfl rfl ?_
  rcases bR_or x with hb | ⟨r, hr, rfl⟩
  · exact g_ST X KOk.p s_D_20 (c_D_reqReg_x htr hb) d_D_transpose_1 rfl ⟨Nat.le_of_ble_eq_true rfl, Nat.le_of_ble_eq_true rfl, Nat.le_of_ble_eq_true rfl, Nat.le_of_ble_eq_true rfl⟩ ⟨rfl, rfl⟩
  refine g_SP X KOk.p s_D_20 (c_D_reqReg htr hr) d_D_transpose_1 rfl ⟨Nat.le_of_ble_eq_true rfl, Nat.le_of_ble_eq_true rfl, Nat.le_of_ble_eq_true rfl, Nat.le_of_ble_eq_true rfl⟩ ?_
  refine g_iload_n X 2 d_D_transpose_4 rfl rfl ?_
  rcases h with h | h
  · exact absurd h (bR_no hr)
  · exact g_ST X KOk.p s_D_20 (c_D_reqReg_x htr h) d_D_transpose_5 rfl ⟨Nat.le_of_ble_eq_true rfl, Nat.le_of_ble_eq_true rfl, Nat.le_of_ble_eq_true rfl, Nat.le_of_ble_eq_true rfl⟩ ⟨rfl, rfl⟩
set_option maxHeartbeats 4000000 in
set_option maxRecDepth 100000 in
theorem l_D_se_j {κ : KX} {δ : EX} {ad : Nat → Nat} (X : XO κ R_D b_D_select 10 (some .int) δ (RM 2) (Ar ad) []) (htr : (xl κ).stackTraces = false) (hinj : Inj ad) {M : DS} {P' : OC → va_W → Prop} {a to hw : Nat} {x : Int64} (ha : a < 6) (h7 : (M a).1 ≤ 8) (h8 : (M a).2.1 ≤ 8) (hhw : hw ≤ 4) {i : Nat} (hi : i < 8) : ∀ n j S, j + n = (M a).2.1 → G κ 10 δ (Kn κ (Ar ad)) (Qe κ δ (Ar ad) P') 0 0 (dl δ ad (va_up M 6 (fl (sej hw x (M a) i) j n S))) [(8, .int (nI i)), (0, .ref (ad 0)), (1, .int (nI to)), (3, .int (nI hw)), (4, .long x), (6, .ref (mq ad a)), (7, .ref (mq ad 6))] [] 121 → G κ 10 δ (Kn κ (Ar ad)) (Qe κ δ (Ar ad) P') 0 0 (dl δ ad (va_up M 6 S)) [(9, .int (nI j)), (8, .int (nI i)), (0, .ref (ad 0)), (1, .int (nI to)), (3, .int (nI hw)), (4, .long x), (6, .ref (mq ad a)), (7, .ref (mq ad 6))] [] 53 := by
  intro n
  induction n with
  | zero =>
    intro j S hj hx
    refine g_iload X d_D_select_53 rfl ?_
    refine g_aload X d_D_select_55 rfl ?_
    refine r_cols X kf_D_62 d_D_select_57 (by omega) ?_
    rw [va_up6 ha]
    refine g_icmp_ge X 121 d_D_select_60 (by decide) (fun hc => ?_) (fun hc => ?_)
    · exact g_sb hx ⟨rfl, rfl, rfl, rfl, rfl, rfl, rfl, trivial⟩
    · exact absurd (nI_le (by omega) (by omega)) hc
  | succ n ih =>
    intro j S hj hx
    refine g_iload X d_D_select_53 rfl ?_
    refine g_aload X d_D_select_55 rfl ?_
    refine r_cols X kf_D_62 d_D_select_57 (by omega) ?_
    rw [va_up6 ha]
    refine g_icmp_ge X 121 d_D_select_60 (by decide) (fun hc => ?_) (fun hc => ?_)
    · exact absurd hc (nI_ge (by omega) (by omega))
    · clear hc
      refine g_aload X d_D_select_63 rfl ?_
      refine g_iload X d_D_select_65 rfl ?_
      refine g_iload X d_D_select_67 rfl ?_
      refine g_VP X KOk.n v_D_43 (dl_m (by omega)) rfl (c_M_has htr (by omega) hi (by omega)) d_D_select_69 rfl ⟨Nat.le_of_ble_eq_true rfl, Nat.le_of_ble_eq_true rfl, Nat.le_of_ble_eq_true rfl, Nat.le_of_ble_eq_true rfl⟩ ?_
      rw [va_up6 ha]
      refine g_if_eq X 115 d_D_select_72 (by decide) (fun hc => ?_) (fun hc => ?_)
      · have h := b2_0.mp hc
        have e : sej hw x (M a) i j S = S := by simp [sej, h]
        simp only [fl, e] at hx
        refine g_iinc X d_D_select_115 rfl (nI_1 _) (by decide) ?_
        refine g_goto X 53 d_D_select_118 (by decide) ?_
        exact g_sb (ih (j + 1) S (by omega) hx) ⟨rfl, rfl, rfl, rfl, rfl, rfl, rfl, rfl, trivial⟩
      · have h := b2_t hc
        refine g_iload_n X 3 d_D_select_75 rfl rfl ?_
        refine g_iload X d_D_select_76 rfl ?_
        refine g_iload X d_D_select_78 rfl ?_
        refine g_aload X d_D_select_80 rfl ?_
        refine g_iload X d_D_select_82 rfl ?_
        refine g_iload X d_D_select_84 rfl ?_
        refine g_VP X KOk.n v_D_54 (dl_m (by omega)) rfl (c_M_value htr (by omega) hi (by omega)) d_D_select_86 rfl ⟨Nat.le_of_ble_eq_true rfl, Nat.le_of_ble_eq_true rfl, Nat.le_of_ble_eq_true rfl, Nat.le_of_ble_eq_true rfl⟩ ?_
        rw [va_up6 ha]
        refine g_lload X d_D_select_89 rfl ?_
        refine g_SP X KOk.n s_D_112 (c_D_isSel htr hhw hi (by omega)) d_D_select_91 rfl ⟨Nat.le_of_ble_eq_true rfl, Nat.le_of_ble_eq_true rfl, Nat.le_of_ble_eq_true rfl, Nat.le_of_ble_eq_true rfl⟩ ?_
        refine g_if_eq X 115 d_D_select_94 (by decide) (fun hd => ?_) (fun hd => ?_)
        · have h2 := b2_0.mp hd
          have e : sej hw x (M a) i j S = S := by simp [sej, h2]
          simp only [fl, e] at hx
          refine g_iinc X d_D_select_115 rfl (nI_1 _) (by decide) ?_
          refine g_goto X 53 d_D_select_118 (by decide) ?_
          exact g_sb (ih (j + 1) S (by omega) hx) ⟨rfl, rfl, rfl, rfl, rfl, rfl, rfl, rfl, trivial⟩
        · have h2 := b2_t hd
          have e : sej hw x (M a) i j S = mEnter S (8 * i + j) (mVal (M a) (8 * i + j)) := by simp [sej, h, h2]
          simp only [fl, e] at hx
          refine g_aload X d_D_select_97 rfl ?_
          refine g_iload X d_D_select_99 rfl ?_
          refine g_iload X d_D_select_101 rfl ?_
          refine g_aload X d_D_select_103 rfl ?_
          refine g_iload X d_D_select_105 rfl ?_
          refine g_iload X d_D_select_107 rfl ?_
          refine g_VP X KOk.n v_D_54 (dl_m (by omega)) rfl (c_M_value htr (by omega) hi (by omega)) d_D_select_109 rfl ⟨Nat.le_of_ble_eq_true rfl, Nat.le_of_ble_eq_true rfl, Nat.le_of_ble_eq_true rfl, Nat.le_of_ble_eq_true rfl⟩ ?_
          rw [va_up6 ha]
          refine g_VN1 X v_D_39 (dl_m (by omega)) rfl (c_M_enter htr hinj (by omega) hi (by omega)) d_D_select_112 rfl ⟨Nat.le_of_ble_eq_true rfl, Nat.le_of_ble_eq_true rfl, Nat.le_of_ble_eq_true rfl, Nat.le_of_ble_eq_true rfl⟩ ?_
          rw [va_up_s, bx_uu]
          refine g_iinc X d_D_select_115 rfl (nI_1 _) (by decide) ?_
          refine g_goto X 53 d_D_select_118 (by decide) ?_
          exact g_sb (ih (j + 1) _ (by omega) hx) ⟨rfl, rfl, rfl, rfl, rfl, rfl, rfl, rfl, trivial⟩
set_option maxHeartbeats 4000000 in
set_option maxRecDepth 100000 in
theorem l_D_se_i {κ : KX} {δ : EX} {ad : Nat → Nat} (X : XO κ R_D b_D_select 10 (some .int) δ (RM 2) (Ar ad) []) (htr : (xl κ).stackTraces = false) (hinj : Inj ad) {M : DS} {P' : OC → va_W → Prop} {a to hw : Nat} {x : Int64} (ha : a < 6) (h7 : (M a).1 ≤ 8) (h8 : (M a).2.1 ≤ 8) (hhw : hw ≤ 4) : ∀ n i S, i + n = (M a).1 → G κ 10 δ (Kn κ (Ar ad)) (Qe κ δ (Ar ad) P') 0 0 (dl δ ad (va_up M 6 (fl (sei hw x (M a)) i n S))) [(0, .ref (ad 0)), (1, .int (nI to)), (3, .int (nI hw)), (4, .long x), (6, .ref (mq ad a)), (7, .ref (mq ad 6))] [] 127 → G κ 10 δ (Kn κ (Ar ad)) (Qe κ δ (Ar ad) P') 0 0 (dl δ ad (va_up M 6 S)) [(8, .int (nI i)), (0, .ref (ad 0)), (1, .int (nI to)), (3, .int (nI hw)), (4, .long x), (6, .ref (mq ad a)), (7, .ref (mq ad 6))] [] 40 := by
  intro n
  induction n with
  | zero =>
    intro i S hi hx
    refine g_iload X d_D_select_40 rfl ?_
    refine g_aload X d_D_select_42 rfl ?_
    refine r_rows X kf_D_58 d_D_select_44 (by omega) ?_
    rw [va_up6 ha]
    refine g_icmp_ge X 127 d_D_select_47 (by decide) (fun hc => ?_) (fun hc => ?_)
    · exact g_sb hx ⟨rfl, rfl, rfl, rfl, rfl, rfl, trivial⟩
    · exact absurd (nI_le (by omega) (by omega)) hc
  | succ n ih =>
    intro i S hi hx
    refine g_iload X d_D_select_40 rfl ?_
    refine g_aload X d_D_select_42 rfl ?_
    refine r_rows X kf_D_58 d_D_select_44 (by omega) ?_
    rw [va_up6 ha]
    refine g_icmp_ge X 127 d_D_select_47 (by decide) (fun hc => ?_) (fun hc => ?_)
    · exact absurd hc (nI_ge (by omega) (by omega))
    · clear hc
      refine g_iconst X (v := nI 0) d_D_select_50 (by decide) ?_
      refine g_istore X d_D_select_51 (by decide) ?_
      refine g_sb (l_D_se_j X htr hinj ha h7 h8 hhw (by omega) (M a).2.1 0 S (by omega) ?_) ⟨rfl, rfl, rfl, rfl, rfl, rfl, rfl, rfl, trivial⟩
      refine g_iinc X d_D_select_121 rfl (nI_1 _) (by decide) ?_
      refine g_goto X 40 d_D_select_124 (by decide) ?_
      exact g_sb (ih (i + 1) _ (by omega) hx) ⟨rfl, rfl, rfl, rfl, rfl, rfl, rfl, trivial⟩
set_option maxHeartbeats 4000000 in
set_option maxRecDepth 100000 in
theorem c_D_select {l : Launch} (htr : l.stackTraces = false) {δ : EX} {ad : Nat → Nat} {M : DS} (hinj : Inj ad) {to a hw : Nat} {x : Int64} (hto : to < 6) (ha : a < 6) (h7 : (M a).1 ≤ 8) (h8 : (M a).2.1 ≤ 8) (hhw : hw ≤ 4) : CTN l y_D_select cw_D_select (RM 2) δ (Ar ad) (dl δ ad M) [.ref (ad 0), .int (nI to), .int (nI a), .int (nI hw), .long x] (some (.int (nI (cnt (fl (sei hw x (M a)) 0 (M a).1 (mClear (M 6) (M a).1 (M a).2.1)).2.2.2 64)))) (KW δ ad to M (fl (sei hw x (M a)) 0 (M a).1 (mClear (M 6) (M a).1 (M a).2.1))) := by
  refine CT.ofN (lv := [(0, .ref (ad 0)), (1, .int (nI to)), (2, .int (nI a)), (3, .int (nI hw)), (4, .long x)]) (Or.inl ⟨rfl, rfl⟩) (by decide) htr rfl (Nat.le_of_ble_eq_true rfl) (fun κ hl X => ?_)
  subst hl
  refine g_iload_n X 1 d_D_select_0 rfl rfl ?_
  refine g_SP X KOk.n s_D_20 (c_D_reqReg htr hto) d_D_select_1 rfl ⟨Nat.le_of_ble_eq_true rfl, Nat.le_of_ble_eq_true rfl, Nat.le_of_ble_eq_true rfl, Nat.le_of_ble_eq_true rfl⟩ ?_
  refine g_iload_n X 2 d_D_select_4 rfl rfl ?_
  refine g_SP X KOk.n s_D_20 (c_D_reqReg htr ha) d_D_select_5 rfl ⟨Nat.le_of_ble_eq_true rfl, Nat.le_of_ble_eq_true rfl, Nat.le_of_ble_eq_true rfl, Nat.le_of_ble_eq_true rfl⟩ ?_
  refine g_iload_n X 3 d_D_select_8 rfl rfl ?_
  refine g_iconst X (v := nI 4) d_D_select_9 (by decide) ?_
  refine g_SP X KOk.n s_D_76 (c_D_reqHow htr hhw (by decide)) d_D_select_10 rfl ⟨Nat.le_of_ble_eq_true rfl, Nat.le_of_ble_eq_true rfl, Nat.le_of_ble_eq_true rfl, Nat.le_of_ble_eq_true rfl⟩ ?_
  refine g_aload_n X 0 d_D_select_13 rfl rfl ?_
  refine r_regs X d_D_select_14 ?_
  refine g_iload_n X 2 d_D_select_17 rfl rfl ?_
  refine r_aald X rfl (by omega) d_D_select_18 ?_
  refine g_astore X d_D_select_19 (by decide) ?_
  refine g_aload_n X 0 d_D_select_21 rfl rfl ?_
  refine g_aload X d_D_select_22 rfl ?_
  refine r_rows X kf_D_58 d_D_select_24 (by omega) ?_
  refine g_aload X d_D_select_27 rfl ?_
  refine r_cols X kf_D_62 d_D_select_29 (by omega) ?_
  refine g_VN1 X v_D_85 (dl_0) rfl (c_D_blank htr hinj) d_D_select_32 rfl ⟨Nat.le_of_ble_eq_true rfl, Nat.le_of_ble_eq_true rfl, Nat.le_of_ble_eq_true rfl, Nat.le_of_ble_eq_true rfl⟩ ?_
  refine g_astore X d_D_select_35 (by decide) ?_
  refine g_iconst X (v := nI 0) d_D_select_37 (by decide) ?_
  refine g_istore X d_D_select_38 (by decide) ?_
  refine g_sb (l_D_se_i X htr hinj ha h7 h8 hhw (M a).1 0 (mClear (M 6) (M a).1 (M a).2.1) (by omega) ?_) ⟨rfl, rfl, rfl, rfl, rfl, rfl, rfl, trivial⟩
  refine g_aload_n X 0 d_D_select_127 rfl rfl ?_
  refine g_iload_n X 1 d_D_select_128 rfl rfl ?_
  have hK := c_D_keep htr hinj (δ := δ) (M := va_up M 6 (fl (sei hw x (M a)) 0 (M a).1 (mClear (M 6) (M a).1 (M a).2.1))) hto
  rw [va_up_s] at hK
  refine g_VN1 X v_D_101 (dl_0) rfl (hK) d_D_select_129 rfl ⟨Nat.le_of_ble_eq_true rfl, Nat.le_of_ble_eq_true rfl, Nat.le_of_ble_eq_true rfl, Nat.le_of_ble_eq_true rfl⟩ ?_
  exact g_iret X KOk.n d_D_select_132 ⟨rfl, rfl⟩
set_option maxHeartbeats 4000000 in
set_option maxRecDepth 100000 in
theorem c_D_select_x {l : Launch} (htr : l.stackTraces = false) {δ : EX} {ad : Nat → Nat} {M : DS} {x y q : Int32} {z : Int64} (h : bR x ∨ bR y ∨ bH 4 q) : CTP l y_D_select cw_D_select (RM 2) δ (dl δ ad M) [.ref (ad 0), .int x, .int y, .int q, .long z] (.inl 1) := by
  refine CT.ofP (lv := [(0, .ref (ad 0)), (1, .int x), (2, .int y), (3, .int q), (4, .long z)]) (Or.inl ⟨rfl, rfl⟩) (by decide) htr rfl (Nat.le_of_ble_eq_true rfl) (fun κ hl X => ?_)
  subst hl
  refine g_iload_n X 1 d_D_select_0 rfl rfl ?_
  rcases bR_or x with hb | ⟨r, hr, rfl⟩
  · exact g_ST X KOk.p s_D_20 (c_D_reqReg_x htr hb) d_D_select_1 rfl ⟨Nat.le_of_ble_eq_true rfl, Nat.le_of_ble_eq_true rfl, Nat.le_of_ble_eq_true rfl, Nat.le_of_ble_eq_true rfl⟩ ⟨rfl, rfl⟩
  refine g_SP X KOk.p s_D_20 (c_D_reqReg htr hr) d_D_select_1 rfl ⟨Nat.le_of_ble_eq_true rfl, Nat.le_of_ble_eq_true rfl, Nat.le_of_ble_eq_true rfl, Nat.le_of_ble_eq_true rfl⟩ ?_
  refine g_iload_n X 2 d_D_select_4 rfl rfl ?_
  rcases bR_or y with hb | ⟨r2, hr2, rfl⟩
  · exact g_ST X KOk.p s_D_20 (c_D_reqReg_x htr hb) d_D_select_5 rfl ⟨Nat.le_of_ble_eq_true rfl, Nat.le_of_ble_eq_true rfl, Nat.le_of_ble_eq_true rfl, Nat.le_of_ble_eq_true rfl⟩ ⟨rfl, rfl⟩
  refine g_SP X KOk.p s_D_20 (c_D_reqReg htr hr2) d_D_select_5 rfl ⟨Nat.le_of_ble_eq_true rfl, Nat.le_of_ble_eq_true rfl, Nat.le_of_ble_eq_true rfl, Nat.le_of_ble_eq_true rfl⟩ ?_
  refine g_iload_n X 3 d_D_select_8 rfl rfl ?_
  refine g_iconst X (v := nI 4) d_D_select_9 (by decide) ?_
  rcases h with h | h | h
  · exact absurd h (bR_no hr)
  · exact absurd h (bR_no hr2)
  · exact g_ST X KOk.p s_D_76 (c_D_reqHow_x htr h) d_D_select_10 rfl ⟨Nat.le_of_ble_eq_true rfl, Nat.le_of_ble_eq_true rfl, Nat.le_of_ble_eq_true rfl, Nat.le_of_ble_eq_true rfl⟩ ⟨rfl, rfl⟩
set_option maxHeartbeats 4000000 in
set_option maxRecDepth 100000 in
theorem c_D_add {l : Launch} (htr : l.stackTraces = false) {δ : EX} {ad : Nat → Nat} {M : DS} (hinj : Inj ad) {to a b k : Nat} (hto : to < 6) (ha : a < 6) (hb : b < 6) (hk : k < 4) (hM : ∀ k, k < 7 → (M k).1 ≤ 8 ∧ (M k).2.1 ≤ 8) (hs : (M a).1 = (M b).1 ∧ (M a).2.1 = (M b).2.1) : CT l y_D_add cw_D_add (RM 5) δ (Ar ad) (dl δ ad M) [.ref (ad 0), .int (nI to), .int (nI a), .int (nI b), .int (nI k)] (PS δ ad M to (((gA k (M a) (mClear (M 6) (M a).1 (M a).2.1)).bind (gA k (M b))).map (dz k))) := by
  refine CT.ofN (lv := [(0, .ref (ad 0)), (1, .int (nI to)), (2, .int (nI a)), (3, .int (nI b)), (4, .int (nI k))]) (Or.inl ⟨rfl, rfl⟩) (by decide) htr rfl (Nat.le_of_ble_eq_true rfl) (fun κ hl X => ?_)
  subst hl
  have gsh : ∀ F S S', gA k F S = some S' → S'.1 = S.1 ∧ S'.2.1 = S.2.1 := fun F S S' h => fo_sh (f := gAi k F) (fun i S S' h => fo_sh (f := gAj k F i) (fun j S S' h => by
    unfold gAj at h
    split at h
    · exact gaS_sh h
    · cases h; exact ⟨rfl, rfl⟩) _ _ _ _ h) _ _ _ _ h
  refine g_iload_n X 1 d_D_add_0 rfl rfl ?_
  refine g_iload_n X 2 d_D_add_1 rfl rfl ?_
  refine g_iload_n X 3 d_D_add_2 rfl rfl ?_
  refine g_iload X d_D_add_3 rfl ?_
  refine g_SP X KOk.n s_D_69 (c_D_reqOps htr hto ha hb hk) d_D_add_5 rfl ⟨Nat.le_of_ble_eq_true rfl, Nat.le_of_ble_eq_true rfl, Nat.le_of_ble_eq_true rfl, Nat.le_of_ble_eq_true rfl⟩ ?_
  refine g_aload_n X 0 d_D_add_8 rfl rfl ?_
  refine g_iload_n X 2 d_D_add_9 rfl rfl ?_
  refine g_iload_n X 3 d_D_add_10 rfl rfl ?_
  refine g_VP X KOk.n v_D_105 (dl_0) rfl (c_D_reqSame htr ha hb hM hs) d_D_add_11 rfl ⟨Nat.le_of_ble_eq_true rfl, Nat.le_of_ble_eq_true rfl, Nat.le_of_ble_eq_true rfl, Nat.le_of_ble_eq_true rfl⟩ ?_
  refine g_aload_n X 0 d_D_add_14 rfl rfl ?_
  refine g_aload_n X 0 d_D_add_15 rfl rfl ?_
  refine r_regs X d_D_add_16 ?_
  refine g_iload_n X 2 d_D_add_19 rfl rfl ?_
  refine r_aald X rfl (by omega) d_D_add_20 ?_
  refine r_rows X kf_D_58 d_D_add_21 (by omega) ?_
  refine g_aload_n X 0 d_D_add_24 rfl rfl ?_
  refine r_regs X d_D_add_25 ?_
  refine g_iload_n X 2 d_D_add_28 rfl rfl ?_
  refine r_aald X rfl (by omega) d_D_add_29 ?_
  refine r_cols X kf_D_62 d_D_add_30 (by omega) ?_
  refine g_VN1 X v_D_85 (dl_0) rfl (c_D_blank htr hinj) d_D_add_33 rfl ⟨Nat.le_of_ble_eq_true rfl, Nat.le_of_ble_eq_true rfl, Nat.le_of_ble_eq_true rfl, Nat.le_of_ble_eq_true rfl⟩ ?_
  refine g_astore X d_D_add_36 (by decide) ?_
  refine g_aload X d_D_add_38 rfl ?_
  refine g_aload_n X 0 d_D_add_40 rfl rfl ?_
  refine r_regs X d_D_add_41 ?_
  refine g_iload_n X 2 d_D_add_44 rfl rfl ?_
  refine r_aald X rfl (by omega) d_D_add_45 ?_
  refine g_iload X d_D_add_46 rfl ?_
  have e1 : (va_up M 6 (mClear (M 6) (M a).1 (M a).2.1)) a = M a := va_up6 ha
  refine g_SPO X s_D_93 (c_D_gA htr hinj ha hk (by rw [e1]; exact (hM a (by omega)).1) (by rw [e1]; exact (hM a (by omega)).2)) d_D_add_48 rfl ⟨Nat.le_of_ble_eq_true rfl, Nat.le_of_ble_eq_true rfl, Nat.le_of_ble_eq_true rfl, Nat.le_of_ble_eq_true rfl⟩ (fun S1 h1 => ?_) (fun h1 S' => ?_)
  · rw [va_up_s, va_up6 ha] at h1
    refine g_aload X d_D_add_51 rfl ?_
    refine g_aload_n X 0 d_D_add_53 rfl rfl ?_
    refine r_regs X d_D_add_54 ?_
    refine g_iload_n X 3 d_D_add_57 rfl rfl ?_
    refine r_aald X rfl (by omega) d_D_add_58 ?_
    refine g_iload X d_D_add_59 rfl ?_
    refine g_SPO X s_D_93 (c_D_gA htr hinj hb hk (by rw [va_up6 hb]; exact (hM b (by omega)).1) (by rw [va_up6 hb]; exact (hM b (by omega)).2)) d_D_add_61 rfl ⟨Nat.le_of_ble_eq_true rfl, Nat.le_of_ble_eq_true rfl, Nat.le_of_ble_eq_true rfl, Nat.le_of_ble_eq_true rfl⟩ (fun S2 h2 => ?_) (fun h2 S' => ?_)
    · rw [va_up_s, va_up6 hb] at h2
      have q1 := gsh _ _ _ h1
      have q2 := gsh _ _ _ h2
      have k1 : S2.1 ≤ 8 := by rw [q2.1, q1.1]; exact (hM a (by omega)).1
      have k2 : S2.2.1 ≤ 8 := by rw [q2.2, q1.2]; exact (hM a (by omega)).2
      refine g_aload X d_D_add_64 rfl ?_
      refine g_iload X d_D_add_66 rfl ?_
      have hZ := c_D_dz htr hinj (δ := δ) (M := (va_up M 6 S2)) hk (by rw [va_up_s]; exact k1) (by rw [va_up_s]; exact k2)
      rw [va_up_s, bx_uu] at hZ
      refine g_SN1 X s_D_97 (hZ) d_D_add_68 rfl ⟨Nat.le_of_ble_eq_true rfl, Nat.le_of_ble_eq_true rfl, Nat.le_of_ble_eq_true rfl, Nat.le_of_ble_eq_true rfl⟩ ?_
      refine g_aload_n X 0 d_D_add_71 rfl rfl ?_
      refine g_iload_n X 1 d_D_add_72 rfl rfl ?_
      have hK := c_D_keep htr hinj (δ := δ) (M := va_up M 6 (dz k S2)) hto
      rw [va_up_s] at hK
      refine g_VN1 X v_D_101 (dl_0) rfl (hK) d_D_add_73 rfl ⟨Nat.le_of_ble_eq_true rfl, Nat.le_of_ble_eq_true rfl, Nat.le_of_ble_eq_true rfl, Nat.le_of_ble_eq_true rfl⟩ ?_
      exact g_iret X KOk.n d_D_add_76 (Or.inl ⟨dz k S2, by rw [h1]; simp [h2], rfl, rfl⟩)
    · rw [va_up_s, va_up6 hb] at h2
      exact Or.inr ⟨by rw [h1]; simp [h2], rfl, S', rfl⟩
  · rw [va_up_s, va_up6 ha] at h1
    exact Or.inr ⟨by rw [h1]; rfl, rfl, S', rfl⟩
set_option maxHeartbeats 4000000 in
set_option maxRecDepth 100000 in
theorem c_D_add_x1 {l : Launch} (htr : l.stackTraces = false) {δ : EX} {ad : Nat → Nat} {M : DS} {x1 x2 x3 x4 : Int32} (h : bR x1 ∨ bR x2 ∨ bR x3 ∨ bH 3 x4) : CTP l y_D_add cw_D_add (RM 5) δ (dl δ ad M) [.ref (ad 0), .int x1, .int x2, .int x3, .int x4] (.inl 1) := by
  refine CT.ofP (lv := [(0, .ref (ad 0)), (1, .int x1), (2, .int x2), (3, .int x3), (4, .int x4)]) (Or.inl ⟨rfl, rfl⟩) (by decide) htr rfl (Nat.le_of_ble_eq_true rfl) (fun κ hl X => ?_)
  subst hl
  refine g_iload_n X 1 d_D_add_0 rfl rfl ?_
  refine g_iload_n X 2 d_D_add_1 rfl rfl ?_
  refine g_iload_n X 3 d_D_add_2 rfl rfl ?_
  refine g_iload X d_D_add_3 rfl ?_
  exact g_ST X KOk.p s_D_69 (c_D_reqOps_x htr h) d_D_add_5 rfl ⟨Nat.le_of_ble_eq_true rfl, Nat.le_of_ble_eq_true rfl, Nat.le_of_ble_eq_true rfl, Nat.le_of_ble_eq_true rfl⟩ ⟨rfl, rfl⟩
set_option maxHeartbeats 4000000 in
set_option maxRecDepth 100000 in
theorem c_D_add_x2 {l : Launch} (htr : l.stackTraces = false) {δ : EX} {ad : Nat → Nat} {M : DS} {to a b k : Nat} (hto : to < 6) (ha : a < 6) (hb : b < 6) (hk : k < 4) (hM : ∀ k, k < 7 → (M k).1 ≤ 8 ∧ (M k).2.1 ≤ 8) (hs : ¬ ((M a).1 = (M b).1 ∧ (M a).2.1 = (M b).2.1)) : CTP l y_D_add cw_D_add (RM 5) δ (dl δ ad M) [.ref (ad 0), .int (nI to), .int (nI a), .int (nI b), .int (nI k)] (.inl 2) := by
  refine CT.ofP (lv := [(0, .ref (ad 0)), (1, .int (nI to)), (2, .int (nI a)), (3, .int (nI b)), (4, .int (nI k))]) (Or.inl ⟨rfl, rfl⟩) (by decide) htr rfl (Nat.le_of_ble_eq_true rfl) (fun κ hl X => ?_)
  subst hl
  refine g_iload_n X 1 d_D_add_0 rfl rfl ?_
  refine g_iload_n X 2 d_D_add_1 rfl rfl ?_
  refine g_iload_n X 3 d_D_add_2 rfl rfl ?_
  refine g_iload X d_D_add_3 rfl ?_
  refine g_SP X KOk.p s_D_69 (c_D_reqOps htr hto ha hb hk) d_D_add_5 rfl ⟨Nat.le_of_ble_eq_true rfl, Nat.le_of_ble_eq_true rfl, Nat.le_of_ble_eq_true rfl, Nat.le_of_ble_eq_true rfl⟩ ?_
  refine g_aload_n X 0 d_D_add_8 rfl rfl ?_
  refine g_iload_n X 2 d_D_add_9 rfl rfl ?_
  refine g_iload_n X 3 d_D_add_10 rfl rfl ?_
  exact g_VT X KOk.p v_D_105 (dl_0) rfl (c_D_reqSame_x htr ha hb hM hs) d_D_add_11 rfl ⟨Nat.le_of_ble_eq_true rfl, Nat.le_of_ble_eq_true rfl, Nat.le_of_ble_eq_true rfl, Nat.le_of_ble_eq_true rfl⟩ ⟨rfl, rfl⟩
set_option maxHeartbeats 4000000 in
set_option maxRecDepth 100000 in
theorem c_D_each_x1 {l : Launch} (htr : l.stackTraces = false) {δ : EX} {ad : Nat → Nat} {M : DS} {x1 x2 x3 x4 : Int32} (h : bR x1 ∨ bR x2 ∨ bR x3 ∨ bH 3 x4) : CTP l y_D_each cw_D_each (RM 5) δ (dl δ ad M) [.ref (ad 0), .int x1, .int x2, .int x3, .int x4] (.inl 1) := by
  refine CT.ofP (lv := [(0, .ref (ad 0)), (1, .int x1), (2, .int x2), (3, .int x3), (4, .int x4)]) (Or.inl ⟨rfl, rfl⟩) (by decide) htr rfl (Nat.le_of_ble_eq_true rfl) (fun κ hl X => ?_)
  subst hl
  refine g_iload_n X 1 d_D_each_0 rfl rfl ?_
  refine g_iload_n X 2 d_D_each_1 rfl rfl ?_
  refine g_iload_n X 3 d_D_each_2 rfl rfl ?_
  refine g_iload X d_D_each_3 rfl ?_
  exact g_ST X KOk.p s_D_69 (c_D_reqOps_x htr h) d_D_each_5 rfl ⟨Nat.le_of_ble_eq_true rfl, Nat.le_of_ble_eq_true rfl, Nat.le_of_ble_eq_true rfl, Nat.le_of_ble_eq_true rfl⟩ ⟨rfl, rfl⟩
set_option maxHeartbeats 4000000 in
set_option maxRecDepth 100000 in
theorem c_D_each_x2 {l : Launch} (htr : l.stackTraces = false) {δ : EX} {ad : Nat → Nat} {M : DS} {to a b k : Nat} (hto : to < 6) (ha : a < 6) (hb : b < 6) (hk : k < 4) (hM : ∀ k, k < 7 → (M k).1 ≤ 8 ∧ (M k).2.1 ≤ 8) (hs : ¬ ((M a).1 = (M b).1 ∧ (M a).2.1 = (M b).2.1)) : CTP l y_D_each cw_D_each (RM 5) δ (dl δ ad M) [.ref (ad 0), .int (nI to), .int (nI a), .int (nI b), .int (nI k)] (.inl 2) := by
  refine CT.ofP (lv := [(0, .ref (ad 0)), (1, .int (nI to)), (2, .int (nI a)), (3, .int (nI b)), (4, .int (nI k))]) (Or.inl ⟨rfl, rfl⟩) (by decide) htr rfl (Nat.le_of_ble_eq_true rfl) (fun κ hl X => ?_)
  subst hl
  refine g_iload_n X 1 d_D_each_0 rfl rfl ?_
  refine g_iload_n X 2 d_D_each_1 rfl rfl ?_
  refine g_iload_n X 3 d_D_each_2 rfl rfl ?_
  refine g_iload X d_D_each_3 rfl ?_
  refine g_SP X KOk.p s_D_69 (c_D_reqOps htr hto ha hb hk) d_D_each_5 rfl ⟨Nat.le_of_ble_eq_true rfl, Nat.le_of_ble_eq_true rfl, Nat.le_of_ble_eq_true rfl, Nat.le_of_ble_eq_true rfl⟩ ?_
  refine g_aload_n X 0 d_D_each_8 rfl rfl ?_
  refine g_iload_n X 2 d_D_each_9 rfl rfl ?_
  refine g_iload_n X 3 d_D_each_10 rfl rfl ?_
  exact g_VT X KOk.p v_D_105 (dl_0) rfl (c_D_reqSame_x htr ha hb hM hs) d_D_each_11 rfl ⟨Nat.le_of_ble_eq_true rfl, Nat.le_of_ble_eq_true rfl, Nat.le_of_ble_eq_true rfl, Nat.le_of_ble_eq_true rfl⟩ ⟨rfl, rfl⟩
theorem eaj_sh {k : Nat} {L R : Mx} {i j : Nat} {S S' : Mx} (h : eaj k L R i j S = some S') : S'.1 = S.1 ∧ S'.2.1 = S.2.1 := by
  unfold eaj at h
  split at h
  · cases hs : prS k (mVal L (8 * i + j)) (mVal R (8 * i + j)) with
    | none => rw [hs] at h; cases h
    | some z => rw [hs] at h; cases h; exact ⟨rfl, rfl⟩
  · cases h; exact ⟨rfl, rfl⟩
def eaI (k c : Nat) (L R : Mx) (i : Nat) (S : Mx) : Option Mx := fo (eaj k L R i) 0 c S
theorem eaI_sh {k c : Nat} {L R : Mx} {i : Nat} {S S' : Mx} (h : eaI k c L R i S = some S') : S'.1 = S.1 ∧ S'.2.1 = S.2.1 := fo_sh (f := eaj k L R i) (fun _ _ _ h => eaj_sh h) _ _ _ _ h
set_option maxHeartbeats 4000000 in
set_option maxRecDepth 100000 in
theorem l_D_ea_j {κ : KX} {δ : EX} {ad : Nat → Nat} (X : XO κ R_D b_D_each 10 (some .int) δ (RM 5) (Ar ad) []) (htr : (xl κ).stackTraces = false) (hinj : Inj ad) {M : DS} {P' : OC → va_W → Prop} {a b to k : Nat} (ha : a < 6) (hb : b < 6) (hk : k < 4) {R C : Nat} (h7 : R ≤ 8) (h8 : C ≤ 8) {i : Nat} (hi : i < 8) : ∀ n j S, j + n = C → S.1 = R → S.2.1 = C → (∀ S', fo (eaj k (M a) (M b) i) j n S = some S' → G κ 10 δ (Kn κ (Ar ad)) (Qe κ δ (Ar ad) P') 0 0 (dl δ ad (va_up M 6 S')) [(8, .int (nI i)), (0, .ref (ad 0)), (1, .int (nI to)), (4, .int (nI k)), (5, .ref (mq ad a)), (6, .ref (mq ad b)), (7, .ref (mq ad 6))] [] 134) → (fo (eaj k (M a) (M b) i) j n S = none → ∀ S', P' (.inl 4) (dl δ ad (va_up M 6 S'))) → G κ 10 δ (Kn κ (Ar ad)) (Qe κ δ (Ar ad) P') 0 0 (dl δ ad (va_up M 6 S)) [(9, .int (nI j)), (8, .int (nI i)), (0, .ref (ad 0)), (1, .int (nI to)), (4, .int (nI k)), (5, .ref (mq ad a)), (6, .ref (mq ad b)), (7, .ref (mq ad 6))] [] 62 := by
  intro n
  induction n with
  | zero =>
    intro j S hj h1 h2 hx ht
    refine g_iload X d_D_each_62 rfl ?_
    refine g_aload X d_D_each_64 rfl ?_
    refine r_cols X kf_D_62 d_D_each_66 (by omega) ?_
    rw [va_up_s, h2]
    refine g_icmp_ge X 134 d_D_each_69 (by decide) (fun hc => ?_) (fun hc => ?_)
    · exact g_sb (hx S rfl) ⟨rfl, rfl, rfl, rfl, rfl, rfl, rfl, trivial⟩
    · exact absurd (nI_le (by omega) (by omega)) hc
  | succ n ih =>
    intro j S hj h1 h2 hx ht
    refine g_iload X d_D_each_62 rfl ?_
    refine g_aload X d_D_each_64 rfl ?_
    refine r_cols X kf_D_62 d_D_each_66 (by omega) ?_
    rw [va_up_s, h2]
    refine g_icmp_ge X 134 d_D_each_69 (by decide) (fun hc => ?_) (fun hc => ?_)
    · exact absurd hc (nI_ge (by omega) (by omega))
    · clear hc
      refine g_aload X d_D_each_72 rfl ?_
      refine g_iload X d_D_each_74 rfl ?_
      refine g_iload X d_D_each_76 rfl ?_
      refine g_VP X KOk.n v_D_43 (dl_m (by omega)) rfl (c_M_has htr (by omega) hi (by omega)) d_D_each_78 rfl ⟨Nat.le_of_ble_eq_true rfl, Nat.le_of_ble_eq_true rfl, Nat.le_of_ble_eq_true rfl, Nat.le_of_ble_eq_true rfl⟩ ?_
      rw [va_up6 ha]
      refine g_if_eq X 128 d_D_each_81 (by decide) (fun hc => ?_) (fun hc => ?_)
      · have h := b2_0.mp hc
        have e : eaj k (M a) (M b) i j S = some S := by simp [eaj, h]
        rw [fo_s (f := eaj k (M a) (M b) i) e] at hx ht
        refine g_iinc X d_D_each_128 rfl (nI_1 _) (by decide) ?_
        refine g_goto X 62 d_D_each_131 (by decide) ?_
        exact g_sb (ih (j + 1) S (by omega) h1 h2 hx ht) ⟨rfl, rfl, rfl, rfl, rfl, rfl, rfl, rfl, trivial⟩
      · have h := b2_t hc
        refine g_aload X d_D_each_84 rfl ?_
        refine g_iload X d_D_each_86 rfl ?_
        refine g_iload X d_D_each_88 rfl ?_
        refine g_VP X KOk.n v_D_43 (dl_m (by omega)) rfl (c_M_has htr (by omega) hi (by omega)) d_D_each_90 rfl ⟨Nat.le_of_ble_eq_true rfl, Nat.le_of_ble_eq_true rfl, Nat.le_of_ble_eq_true rfl, Nat.le_of_ble_eq_true rfl⟩ ?_
        rw [va_up6 hb]
        refine g_if_eq X 128 d_D_each_93 (by decide) (fun hd => ?_) (fun hd => ?_)
        · have g := b2_0.mp hd
          have e : eaj k (M a) (M b) i j S = some S := by simp [eaj, g]
          rw [fo_s (f := eaj k (M a) (M b) i) e] at hx ht
          refine g_iinc X d_D_each_128 rfl (nI_1 _) (by decide) ?_
          refine g_goto X 62 d_D_each_131 (by decide) ?_
          exact g_sb (ih (j + 1) S (by omega) h1 h2 hx ht) ⟨rfl, rfl, rfl, rfl, rfl, rfl, rfl, rfl, trivial⟩
        · have g := b2_t hd
          refine g_aload X d_D_each_96 rfl ?_
          refine g_iload X d_D_each_98 rfl ?_
          refine g_iload X d_D_each_100 rfl ?_
          refine g_iload X d_D_each_102 rfl ?_
          refine g_aload X d_D_each_104 rfl ?_
          refine g_iload X d_D_each_106 rfl ?_
          refine g_iload X d_D_each_108 rfl ?_
          refine g_VP X KOk.n v_D_54 (dl_m (by omega)) rfl (c_M_value htr (by omega) hi (by omega)) d_D_each_110 rfl ⟨Nat.le_of_ble_eq_true rfl, Nat.le_of_ble_eq_true rfl, Nat.le_of_ble_eq_true rfl, Nat.le_of_ble_eq_true rfl⟩ ?_
          rw [va_up6 ha]
          refine g_aload X d_D_each_113 rfl ?_
          refine g_iload X d_D_each_115 rfl ?_
          refine g_iload X d_D_each_117 rfl ?_
          refine g_VP X KOk.n v_D_54 (dl_m (by omega)) rfl (c_M_value htr (by omega) hi (by omega)) d_D_each_119 rfl ⟨Nat.le_of_ble_eq_true rfl, Nat.le_of_ble_eq_true rfl, Nat.le_of_ble_eq_true rfl, Nat.le_of_ble_eq_true rfl⟩ ?_
          rw [va_up6 hb]
          have hC := c_D_productOver htr (δ := δ) (ad := ad) (M := va_up M 6 S) (k := k) (x := mVal (M a) (8 * i + j)) (y := mVal (M b) (8 * i + j)) hk
          cases hv : prS k (mVal (M a) (8 * i + j)) (mVal (M b) (8 * i + j)) with
          | none =>
            rw [hv] at hC
            have e : eaj k (M a) (M b) i j S = none := by simp [eaj, h, g, hv]
            exact g_ST X KOk.n s_D_108 (hC) d_D_each_122 rfl ⟨Nat.le_of_ble_eq_true rfl, Nat.le_of_ble_eq_true rfl, Nat.le_of_ble_eq_true rfl, Nat.le_of_ble_eq_true rfl⟩ (ht (fo_n (f := eaj k (M a) (M b) i) e) S)
          | some z =>
            rw [hv] at hC
            have e : eaj k (M a) (M b) i j S = some (mEnter S (8 * i + j) z) := by simp [eaj, h, g, hv]
            rw [fo_s (f := eaj k (M a) (M b) i) e] at hx ht
            refine g_SP X KOk.n s_D_108 (hC) d_D_each_122 rfl ⟨Nat.le_of_ble_eq_true rfl, Nat.le_of_ble_eq_true rfl, Nat.le_of_ble_eq_true rfl, Nat.le_of_ble_eq_true rfl⟩ ?_
            refine g_VN1 X v_D_39 (dl_m (by omega)) rfl (c_M_enter htr hinj (by omega) hi (by omega)) d_D_each_125 rfl ⟨Nat.le_of_ble_eq_true rfl, Nat.le_of_ble_eq_true rfl, Nat.le_of_ble_eq_true rfl, Nat.le_of_ble_eq_true rfl⟩ ?_
            rw [va_up_s, bx_uu]
            refine g_iinc X d_D_each_128 rfl (nI_1 _) (by decide) ?_
            refine g_goto X 62 d_D_each_131 (by decide) ?_
            exact g_sb (ih (j + 1) (mEnter S (8 * i + j) z) (by omega) h1 h2 hx ht) ⟨rfl, rfl, rfl, rfl, rfl, rfl, rfl, rfl, trivial⟩
set_option maxHeartbeats 4000000 in
set_option maxRecDepth 100000 in
theorem l_D_ea_i {κ : KX} {δ : EX} {ad : Nat → Nat} (X : XO κ R_D b_D_each 10 (some .int) δ (RM 5) (Ar ad) []) (htr : (xl κ).stackTraces = false) (hinj : Inj ad) {M : DS} {P' : OC → va_W → Prop} {a b to k : Nat} (ha : a < 6) (hb : b < 6) (hk : k < 4) {R C : Nat} (h7 : R ≤ 8) (h8 : C ≤ 8) : ∀ n i S, i + n = R → S.1 = R → S.2.1 = C → (∀ S', fo (eaI k C (M a) (M b)) i n S = some S' → G κ 10 δ (Kn κ (Ar ad)) (Qe κ δ (Ar ad) P') 0 0 (dl δ ad (va_up M 6 S')) [(0, .ref (ad 0)), (1, .int (nI to)), (4, .int (nI k)), (5, .ref (mq ad a)), (6, .ref (mq ad b)), (7, .ref (mq ad 6))] [] 140) → (fo (eaI k C (M a) (M b)) i n S = none → ∀ S', P' (.inl 4) (dl δ ad (va_up M 6 S'))) → G κ 10 δ (Kn κ (Ar ad)) (Qe κ δ (Ar ad) P') 0 0 (dl δ ad (va_up M 6 S)) [(8, .int (nI i)), (0, .ref (ad 0)), (1, .int (nI to)), (4, .int (nI k)), (5, .ref (mq ad a)), (6, .ref (mq ad b)), (7, .ref (mq ad 6))] [] 49 := by
  intro n
  induction n with
  | zero =>
    intro i S hi h1 h2 hx ht
    refine g_iload X d_D_each_49 rfl ?_
    refine g_aload X d_D_each_51 rfl ?_
    refine r_rows X kf_D_58 d_D_each_53 (by omega) ?_
    rw [va_up_s, h1]
    refine g_icmp_ge X 140 d_D_each_56 (by decide) (fun hc => ?_) (fun hc => ?_)
    · exact g_sb (hx S rfl) ⟨rfl, rfl, rfl, rfl, rfl, rfl, trivial⟩
    · exact absurd (nI_le (by omega) (by omega)) hc
  | succ n ih =>
    intro i S hi h1 h2 hx ht
    refine g_iload X d_D_each_49 rfl ?_
    refine g_aload X d_D_each_51 rfl ?_
    refine r_rows X kf_D_58 d_D_each_53 (by omega) ?_
    rw [va_up_s, h1]
    refine g_icmp_ge X 140 d_D_each_56 (by decide) (fun hc => ?_) (fun hc => ?_)
    · exact absurd hc (nI_ge (by omega) (by omega))
    · clear hc
      refine g_iconst X (v := nI 0) d_D_each_59 (by decide) ?_
      refine g_istore X d_D_each_60 (by decide) ?_
      refine g_sb (l_D_ea_j X htr hinj ha hb hk h7 h8 (by omega) C 0 S (by omega) h1 h2 (fun S' hS => ?_) (fun hS S' => ?_)) ⟨rfl, rfl, rfl, rfl, rfl, rfl, rfl, rfl, trivial⟩
      · rw [fo_s (f := eaI k C (M a) (M b)) hS] at hx ht
        have q := eaI_sh (c := C) hS
        have k1 := q.1.trans h1
        have k2 := q.2.trans h2
        refine g_iinc X d_D_each_134 rfl (nI_1 _) (by decide) ?_
        refine g_goto X 49 d_D_each_137 (by decide) ?_
        exact g_sb (ih (i + 1) S' (by omega) k1 k2 hx ht) ⟨rfl, rfl, rfl, rfl, rfl, rfl, rfl, trivial⟩
      · exact ht (fo_n (f := eaI k C (M a) (M b)) hS) S'
set_option maxHeartbeats 4000000 in
set_option maxRecDepth 100000 in
theorem c_D_each {l : Launch} (htr : l.stackTraces = false) {δ : EX} {ad : Nat → Nat} {M : DS} (hinj : Inj ad) {to a b k : Nat} (hto : to < 6) (ha : a < 6) (hb : b < 6) (hk : k < 4) (hM : ∀ k, k < 7 → (M k).1 ≤ 8 ∧ (M k).2.1 ≤ 8) (hs : (M a).1 = (M b).1 ∧ (M a).2.1 = (M b).2.1) : CT l y_D_each cw_D_each (RM 5) δ (Ar ad) (dl δ ad M) [.ref (ad 0), .int (nI to), .int (nI a), .int (nI b), .int (nI k)] (PS δ ad M to ((fo (eaI k (M a).2.1 (M a) (M b)) 0 (M a).1 (mClear (M 6) (M a).1 (M a).2.1)).map (dz k))) := by
  refine CT.ofN (lv := [(0, .ref (ad 0)), (1, .int (nI to)), (2, .int (nI a)), (3, .int (nI b)), (4, .int (nI k))]) (Or.inl ⟨rfl, rfl⟩) (by decide) htr rfl (Nat.le_of_ble_eq_true rfl) (fun κ hl X => ?_)
  subst hl
  refine g_iload_n X 1 d_D_each_0 rfl rfl ?_
  refine g_iload_n X 2 d_D_each_1 rfl rfl ?_
  refine g_iload_n X 3 d_D_each_2 rfl rfl ?_
  refine g_iload X d_D_each_3 rfl ?_
  refine g_SP X KOk.n s_D_69 (c_D_reqOps htr hto ha hb hk) d_D_each_5 rfl ⟨Nat.le_of_ble_eq_true rfl, Nat.le_of_ble_eq_true rfl, Nat.le_of_ble_eq_true rfl, Nat.le_of_ble_eq_true rfl⟩ ?_
  refine g_aload_n X 0 d_D_each_8 rfl rfl ?_
  refine g_iload_n X 2 d_D_each_9 rfl rfl ?_
  refine g_iload_n X 3 d_D_each_10 rfl rfl ?_
  refine g_VP X KOk.n v_D_105 (dl_0) rfl (c_D_reqSame htr ha hb hM hs) d_D_each_11 rfl ⟨Nat.le_of_ble_eq_true rfl, Nat.le_of_ble_eq_true rfl, Nat.le_of_ble_eq_true rfl, Nat.le_of_ble_eq_true rfl⟩ ?_
  refine g_aload_n X 0 d_D_each_14 rfl rfl ?_
  refine r_regs X d_D_each_15 ?_
  refine g_iload_n X 2 d_D_each_18 rfl rfl ?_
  refine r_aald X rfl (by omega) d_D_each_19 ?_
  refine g_astore X d_D_each_20 (by decide) ?_
  refine g_aload_n X 0 d_D_each_22 rfl rfl ?_
  refine r_regs X d_D_each_23 ?_
  refine g_iload_n X 3 d_D_each_26 rfl rfl ?_
  refine r_aald X rfl (by omega) d_D_each_27 ?_
  refine g_astore X d_D_each_28 (by decide) ?_
  refine g_aload_n X 0 d_D_each_30 rfl rfl ?_
  refine g_aload X d_D_each_31 rfl ?_
  refine r_rows X kf_D_58 d_D_each_33 (by omega) ?_
  refine g_aload X d_D_each_36 rfl ?_
  refine r_cols X kf_D_62 d_D_each_38 (by omega) ?_
  refine g_VN1 X v_D_85 (dl_0) rfl (c_D_blank htr hinj) d_D_each_41 rfl ⟨Nat.le_of_ble_eq_true rfl, Nat.le_of_ble_eq_true rfl, Nat.le_of_ble_eq_true rfl, Nat.le_of_ble_eq_true rfl⟩ ?_
  refine g_astore X d_D_each_44 (by decide) ?_
  refine g_iconst X (v := nI 0) d_D_each_46 (by decide) ?_
  refine g_istore X d_D_each_47 (by decide) ?_
  refine g_sb (l_D_ea_i X htr hinj ha hb hk (hM a (by omega)).1 (hM a (by omega)).2 (M a).1 0 (mClear (M 6) (M a).1 (M a).2.1) (by omega) rfl rfl (fun S2 h2 => ?_) (fun h2 S' => ?_)) ⟨rfl, rfl, rfl, rfl, rfl, rfl, rfl, trivial⟩
  · have q2 := fo_sh (f := eaI k (M a).2.1 (M a) (M b)) (fun _ _ _ h => eaI_sh h) _ _ _ _ h2
    have k1 : S2.1 ≤ 8 := by rw [q2.1]; exact (hM a (by omega)).1
    have k2 : S2.2.1 ≤ 8 := by rw [q2.2]; exact (hM a (by omega)).2
    refine g_aload X d_D_each_140 rfl ?_
    refine g_iload X d_D_each_142 rfl ?_
    have hZ := c_D_dz htr hinj (δ := δ) (M := (va_up M 6 S2)) hk (by rw [va_up_s]; exact k1) (by rw [va_up_s]; exact k2)
    rw [va_up_s, bx_uu] at hZ
    refine g_SN1 X s_D_97 (hZ) d_D_each_144 rfl ⟨Nat.le_of_ble_eq_true rfl, Nat.le_of_ble_eq_true rfl, Nat.le_of_ble_eq_true rfl, Nat.le_of_ble_eq_true rfl⟩ ?_
    refine g_aload_n X 0 d_D_each_147 rfl rfl ?_
    refine g_iload_n X 1 d_D_each_148 rfl rfl ?_
    have hK := c_D_keep htr hinj (δ := δ) (M := va_up M 6 (dz k S2)) hto
    rw [va_up_s] at hK
    refine g_VN1 X v_D_101 (dl_0) rfl (hK) d_D_each_149 rfl ⟨Nat.le_of_ble_eq_true rfl, Nat.le_of_ble_eq_true rfl, Nat.le_of_ble_eq_true rfl, Nat.le_of_ble_eq_true rfl⟩ ?_
    exact g_iret X KOk.n d_D_each_152 (Or.inl ⟨dz k S2, by rw [h2]; rfl, rfl, rfl⟩)
  · exact Or.inr ⟨by rw [h2]; rfl, rfl, S', rfl⟩
end PB
end
section
section PC3
set_option maxHeartbeats 4000000 in
set_option maxRecDepth 100000 in
theorem l_D_rd_j {κ : KX} {δ : EX} {ad : Nat → Nat} (X : XO κ R_D b_D_reduce 7 (some .long) δ (RM 4) (Ar ad) []) (htr : (xl κ).stackTraces = false) (hinj : Inj ad) {M : DS} {P' : OC → va_W → Prop} {a k : Nat} (ha : a < 6) (h7 : (M a).1 ≤ 8) (h8 : (M a).2.1 ≤ 8) (hk : k < 4) {i : Nat} (hi : i < 8) : ∀ n j S, j + n = (M a).2.1 → (∀ S', fo (rdj k (M a) i) j n S = some S' → G κ 7 δ (Kn κ (Ar ad)) (Qe κ δ (Ar ad) P') 0 0 (dl δ ad (va_up M 6 S')) [(5, .int (nI i)), (0, .ref (ad 0)), (2, .int (nI k)), (3, .ref (mq ad a)), (4, .ref (mq ad 6))] [] 80) → (fo (rdj k (M a) i) j n S = none → ∀ S', P' (.inl 4) (dl δ ad (va_up M 6 S'))) → G κ 7 δ (Kn κ (Ar ad)) (Qe κ δ (Ar ad) P') 0 0 (dl δ ad (va_up M 6 S)) [(6, .int (nI j)), (5, .int (nI i)), (0, .ref (ad 0)), (2, .int (nI k)), (3, .ref (mq ad a)), (4, .ref (mq ad 6))] [] 38 := by
  intro n
  induction n with
  | zero =>
    intro j S hj hx ht
    refine g_iload X d_D_reduce_38 rfl ?_
    refine g_aload_n X 3 d_D_reduce_40 rfl rfl ?_
    refine r_cols X kf_D_62 d_D_reduce_41 (by omega) ?_
    rw [va_up6 ha]
    refine g_icmp_ge X 80 d_D_reduce_44 (by decide) (fun hc => ?_) (fun hc => ?_)
    · exact g_sb (hx S rfl) ⟨rfl, rfl, rfl, rfl, rfl, trivial⟩
    · exact absurd (nI_le (by omega) (by omega)) hc
  | succ n ih =>
    intro j S hj hx ht
    refine g_iload X d_D_reduce_38 rfl ?_
    refine g_aload_n X 3 d_D_reduce_40 rfl rfl ?_
    refine r_cols X kf_D_62 d_D_reduce_41 (by omega) ?_
    rw [va_up6 ha]
    refine g_icmp_ge X 80 d_D_reduce_44 (by decide) (fun hc => ?_) (fun hc => ?_)
    · exact absurd hc (nI_ge (by omega) (by omega))
    · clear hc
      refine g_aload_n X 3 d_D_reduce_47 rfl rfl ?_
      refine g_iload X d_D_reduce_48 rfl ?_
      refine g_iload X d_D_reduce_50 rfl ?_
      refine g_VP X KOk.n v_D_43 (dl_m (by omega)) rfl (c_M_has htr (by omega) hi (by omega)) d_D_reduce_52 rfl ⟨Nat.le_of_ble_eq_true rfl, Nat.le_of_ble_eq_true rfl, Nat.le_of_ble_eq_true rfl, Nat.le_of_ble_eq_true rfl⟩ ?_
      rw [va_up6 ha]
      refine g_if_eq X 74 d_D_reduce_55 (by decide) (fun hc => ?_) (fun hc => ?_)
      · have h := b2_0.mp hc
        have e : rdj k (M a) i j S = some S := by simp [rdj, h]
        rw [fo_s (f := rdj k (M a) i) e] at hx ht
        refine g_iinc X d_D_reduce_74 rfl (nI_1 _) (by decide) ?_
        refine g_goto X 38 d_D_reduce_77 (by decide) ?_
        exact g_sb (ih (j + 1) S (by omega) hx ht) ⟨rfl, rfl, rfl, rfl, rfl, rfl, trivial⟩
      · have h := b2_t hc
        have e : rdj k (M a) i j S = gaS k S (8 * 0 + 0) (mVal (M a) (8 * i + j)) := by simp [rdj, h]
        refine g_aload X d_D_reduce_58 rfl ?_
        refine g_iconst X (v := nI 0) d_D_reduce_60 (by decide) ?_
        refine g_iconst X (v := nI 0) d_D_reduce_61 (by decide) ?_
        refine g_aload_n X 3 d_D_reduce_62 rfl rfl ?_
        refine g_iload X d_D_reduce_63 rfl ?_
        refine g_iload X d_D_reduce_65 rfl ?_
        refine g_VP X KOk.n v_D_54 (dl_m (by omega)) rfl (c_M_value htr (by omega) hi (by omega)) d_D_reduce_67 rfl ⟨Nat.le_of_ble_eq_true rfl, Nat.le_of_ble_eq_true rfl, Nat.le_of_ble_eq_true rfl, Nat.le_of_ble_eq_true rfl⟩ ?_
        rw [va_up6 ha]
        refine g_iload_n X 2 d_D_reduce_70 rfl rfl ?_
        refine g_SPO X s_D_119 (c_D_gather htr hinj (by decide) (by decide) hk) d_D_reduce_71 rfl ⟨Nat.le_of_ble_eq_true rfl, Nat.le_of_ble_eq_true rfl, Nat.le_of_ble_eq_true rfl, Nat.le_of_ble_eq_true rfl⟩ (fun S' hS => ?_) (fun hS S' => ?_)
        · rw [va_up_s] at hS
          rw [fo_s (f := rdj k (M a) i) (e.trans hS)] at hx ht
          refine g_iinc X d_D_reduce_74 rfl (nI_1 _) (by decide) ?_
          refine g_goto X 38 d_D_reduce_77 (by decide) ?_
          exact g_sb (ih (j + 1) S' (by omega) hx ht) ⟨rfl, rfl, rfl, rfl, rfl, rfl, trivial⟩
        · rw [va_up_s] at hS
          exact ht (fo_n (f := rdj k (M a) i) (e.trans hS)) S'
set_option maxHeartbeats 4000000 in
set_option maxRecDepth 100000 in
theorem l_D_rd_i {κ : KX} {δ : EX} {ad : Nat → Nat} (X : XO κ R_D b_D_reduce 7 (some .long) δ (RM 4) (Ar ad) []) (htr : (xl κ).stackTraces = false) (hinj : Inj ad) {M : DS} {P' : OC → va_W → Prop} {a k : Nat} (ha : a < 6) (h7 : (M a).1 ≤ 8) (h8 : (M a).2.1 ≤ 8) (hk : k < 4) : ∀ n i S, i + n = (M a).1 → (∀ S', fo (rdi k (M a)) i n S = some S' → G κ 7 δ (Kn κ (Ar ad)) (Qe κ δ (Ar ad) P') 0 0 (dl δ ad (va_up M 6 S')) [(0, .ref (ad 0)), (2, .int (nI k)), (3, .ref (mq ad a)), (4, .ref (mq ad 6))] [] 86) → (fo (rdi k (M a)) i n S = none → ∀ S', P' (.inl 4) (dl δ ad (va_up M 6 S'))) → G κ 7 δ (Kn κ (Ar ad)) (Qe κ δ (Ar ad) P') 0 0 (dl δ ad (va_up M 6 S)) [(5, .int (nI i)), (0, .ref (ad 0)), (2, .int (nI k)), (3, .ref (mq ad a)), (4, .ref (mq ad 6))] [] 26 := by
  intro n
  induction n with
  | zero =>
    intro i S hi hx ht
    refine g_iload X d_D_reduce_26 rfl ?_
    refine g_aload_n X 3 d_D_reduce_28 rfl rfl ?_
    refine r_rows X kf_D_58 d_D_reduce_29 (by omega) ?_
    rw [va_up6 ha]
    refine g_icmp_ge X 86 d_D_reduce_32 (by decide) (fun hc => ?_) (fun hc => ?_)
    · exact g_sb (hx S rfl) ⟨rfl, rfl, rfl, rfl, trivial⟩
    · exact absurd (nI_le (by omega) (by omega)) hc
  | succ n ih =>
    intro i S hi hx ht
    refine g_iload X d_D_reduce_26 rfl ?_
    refine g_aload_n X 3 d_D_reduce_28 rfl rfl ?_
    refine r_rows X kf_D_58 d_D_reduce_29 (by omega) ?_
    rw [va_up6 ha]
    refine g_icmp_ge X 86 d_D_reduce_32 (by decide) (fun hc => ?_) (fun hc => ?_)
    · exact absurd hc (nI_ge (by omega) (by omega))
    · clear hc
      refine g_iconst X (v := nI 0) d_D_reduce_35 (by decide) ?_
      refine g_istore X d_D_reduce_36 (by decide) ?_
      refine g_sb (l_D_rd_j X htr hinj ha h7 h8 hk (by omega) (M a).2.1 0 S (by omega) (fun S' hS => ?_) (fun hS S' => ?_)) ⟨rfl, rfl, rfl, rfl, rfl, rfl, trivial⟩
      · rw [fo_s (f := rdi k (M a)) hS] at hx ht
        refine g_iinc X d_D_reduce_80 rfl (nI_1 _) (by decide) ?_
        refine g_goto X 26 d_D_reduce_83 (by decide) ?_
        exact g_sb (ih (i + 1) S' (by omega) hx ht) ⟨rfl, rfl, rfl, rfl, rfl, trivial⟩
      · exact ht (fo_n (f := rdi k (M a)) hS) S'
/-- what reduce ends with: the sum; no entry; a sum out of range -/
def PR (δ : EX) (ad : Nat → Nat) (M : DS) (o : Option Mx) : OC → va_W → Prop := fun r w => ∃ S', w = dl δ ad (va_up M 6 S') ∧ ((o = none ∧ r = .inl 4) ∨ ∃ S, o = some S ∧ ((mHas S (8 * 0 + 0) = false ∧ r = .inl 3) ∨ (mHas S (8 * 0 + 0) = true ∧ r = .inr (some (.long (mVal S (8 * 0 + 0)))))))
set_option maxHeartbeats 4000000 in
set_option maxRecDepth 100000 in
theorem c_D_reduce {l : Launch} (htr : l.stackTraces = false) {δ : EX} {ad : Nat → Nat} {M : DS} (hinj : Inj ad) {a k : Nat} (ha : a < 6) (h7 : (M a).1 ≤ 8) (h8 : (M a).2.1 ≤ 8) (hk : k < 4) : CT l y_D_reduce cw_D_reduce (RM 4) δ (Ar ad) (dl δ ad M) [.ref (ad 0), .int (nI a), .int (nI k)] (PR δ ad M (fo (rdi k (M a)) 0 (M a).1 (mClear (M 6) 1 1))) := by
  refine CT.ofN (lv := [(0, .ref (ad 0)), (1, .int (nI a)), (2, .int (nI k))]) (Or.inl ⟨rfl, rfl⟩) (by decide) htr rfl (Nat.le_of_ble_eq_true rfl) (fun κ hl X => ?_)
  subst hl
  refine g_iload_n X 1 d_D_reduce_0 rfl rfl ?_
  refine g_SP X KOk.n s_D_20 (c_D_reqReg htr ha) d_D_reduce_1 rfl ⟨Nat.le_of_ble_eq_true rfl, Nat.le_of_ble_eq_true rfl, Nat.le_of_ble_eq_true rfl, Nat.le_of_ble_eq_true rfl⟩ ?_
  refine g_iload_n X 2 d_D_reduce_4 rfl rfl ?_
  refine g_SP X KOk.n s_D_116 (c_D_reqSem htr hk) d_D_reduce_5 rfl ⟨Nat.le_of_ble_eq_true rfl, Nat.le_of_ble_eq_true rfl, Nat.le_of_ble_eq_true rfl, Nat.le_of_ble_eq_true rfl⟩ ?_
  refine g_aload_n X 0 d_D_reduce_8 rfl rfl ?_
  refine r_regs X d_D_reduce_9 ?_
  refine g_iload_n X 1 d_D_reduce_12 rfl rfl ?_
  refine r_aald X rfl (by omega) d_D_reduce_13 ?_
  refine g_astore_n X 3 d_D_reduce_14 rfl (by decide) ?_
  refine g_aload_n X 0 d_D_reduce_15 rfl rfl ?_
  refine g_iconst X (v := nI 1) d_D_reduce_16 (by decide) ?_
  refine g_iconst X (v := nI 1) d_D_reduce_17 (by decide) ?_
  refine g_VN1 X v_D_85 (dl_0) rfl (c_D_blank htr hinj) d_D_reduce_18 rfl ⟨Nat.le_of_ble_eq_true rfl, Nat.le_of_ble_eq_true rfl, Nat.le_of_ble_eq_true rfl, Nat.le_of_ble_eq_true rfl⟩ ?_
  refine g_astore X d_D_reduce_21 (by decide) ?_
  refine g_iconst X (v := nI 0) d_D_reduce_23 (by decide) ?_
  refine g_istore X d_D_reduce_24 (by decide) ?_
  refine g_sb (l_D_rd_i X htr hinj ha h7 h8 hk (M a).1 0 (mClear (M 6) 1 1) (by omega) (fun S2 h2 => ?_) (fun h2 S' => ?_)) ⟨rfl, rfl, rfl, rfl, rfl, trivial⟩
  · have hH := c_M_has htr (δ := δ) (ad := ad) (M := va_up M 6 S2) (r := 6) (i := 0) (j := 0) (by decide) (by decide) (by decide)
    have hV := c_M_value htr (δ := δ) (ad := ad) (M := va_up M 6 S2) (r := 6) (i := 0) (j := 0) (by decide) (by decide) (by decide)
    rw [va_up_s] at hH hV
    refine g_aload X d_D_reduce_86 rfl ?_
    refine g_iconst X (v := nI 0) d_D_reduce_88 (by decide) ?_
    refine g_iconst X (v := nI 0) d_D_reduce_89 (by decide) ?_
    refine g_VP X KOk.n v_D_43 (dl_m (by omega)) rfl (hH) d_D_reduce_90 rfl ⟨Nat.le_of_ble_eq_true rfl, Nat.le_of_ble_eq_true rfl, Nat.le_of_ble_eq_true rfl, Nat.le_of_ble_eq_true rfl⟩ ?_
    cases hq : mHas S2 (8 * 0 + 0) with
    | false =>
      exact g_ST X KOk.n s_D_50 (c_D_reqEntry_x htr (b := false) rfl) d_D_reduce_93 rfl ⟨Nat.le_of_ble_eq_true rfl, Nat.le_of_ble_eq_true rfl, Nat.le_of_ble_eq_true rfl, Nat.le_of_ble_eq_true rfl⟩ ⟨S2, rfl, Or.inr ⟨S2, h2, Or.inl ⟨hq, rfl⟩⟩⟩
    | true =>
      refine g_SP X KOk.n s_D_50 (c_D_reqEntry htr (b := true) rfl) d_D_reduce_93 rfl ⟨Nat.le_of_ble_eq_true rfl, Nat.le_of_ble_eq_true rfl, Nat.le_of_ble_eq_true rfl, Nat.le_of_ble_eq_true rfl⟩ ?_
      refine g_aload X d_D_reduce_96 rfl ?_
      refine g_iconst X (v := nI 0) d_D_reduce_98 (by decide) ?_
      refine g_iconst X (v := nI 0) d_D_reduce_99 (by decide) ?_
      refine g_VP X KOk.n v_D_54 (dl_m (by omega)) rfl (hV) d_D_reduce_100 rfl ⟨Nat.le_of_ble_eq_true rfl, Nat.le_of_ble_eq_true rfl, Nat.le_of_ble_eq_true rfl, Nat.le_of_ble_eq_true rfl⟩ ?_
      exact g_lret X KOk.n d_D_reduce_103 ⟨S2, rfl, Or.inr ⟨S2, h2, Or.inr ⟨hq, rfl⟩⟩⟩
  · exact ⟨S', rfl, Or.inl ⟨h2, rfl⟩⟩
set_option maxHeartbeats 4000000 in
set_option maxRecDepth 100000 in
theorem c_D_reduce_x {l : Launch} (htr : l.stackTraces = false) {δ : EX} {ad : Nat → Nat} {M : DS} {x y : Int32} (h : bR x ∨ bH 3 y) : CTP l y_D_reduce cw_D_reduce (RM 4) δ (dl δ ad M) [.ref (ad 0), .int x, .int y] (.inl 1) := by
  refine CT.ofP (lv := [(0, .ref (ad 0)), (1, .int x), (2, .int y)]) (Or.inl ⟨rfl, rfl⟩) (by decide) htr rfl (Nat.le_of_ble_eq_true rfl) (fun κ hl X => ?_)
  subst hl
  refine g_iload_n X 1 d_D_reduce_0 rfl rfl ?_
  rcases bR_or x with hb | ⟨r, hr, rfl⟩
  · exact g_ST X KOk.p s_D_20 (c_D_reqReg_x htr hb) d_D_reduce_1 rfl ⟨Nat.le_of_ble_eq_true rfl, Nat.le_of_ble_eq_true rfl, Nat.le_of_ble_eq_true rfl, Nat.le_of_ble_eq_true rfl⟩ ⟨rfl, rfl⟩
  refine g_SP X KOk.p s_D_20 (c_D_reqReg htr hr) d_D_reduce_1 rfl ⟨Nat.le_of_ble_eq_true rfl, Nat.le_of_ble_eq_true rfl, Nat.le_of_ble_eq_true rfl, Nat.le_of_ble_eq_true rfl⟩ ?_
  refine g_iload_n X 2 d_D_reduce_4 rfl rfl ?_
  rcases h with h | h
  · exact absurd h (bR_no hr)
  · exact g_ST X KOk.p s_D_116 (c_D_reqSem_x htr h) d_D_reduce_5 rfl ⟨Nat.le_of_ble_eq_true rfl, Nat.le_of_ble_eq_true rfl, Nat.le_of_ble_eq_true rfl, Nat.le_of_ble_eq_true rfl⟩ ⟨rfl, rfl⟩
set_option maxHeartbeats 4000000 in
set_option maxRecDepth 100000 in
theorem c_D_levels_x1 {l : Launch} (htr : l.stackTraces = false) {δ : EX} {ad : Nat → Nat} {M : DS} {x y z : Int32} (h : bR x ∨ bR y) : CTP l y_D_levels cw_D_levels (RM 3) δ (dl δ ad M) [.ref (ad 0), .int x, .int y, .int z] (.inl 1) := by
  refine CT.ofP (lv := [(0, .ref (ad 0)), (1, .int x), (2, .int y), (3, .int z)]) (Or.inl ⟨rfl, rfl⟩) (by decide) htr rfl (Nat.le_of_ble_eq_true rfl) (fun κ hl X => ?_)
  subst hl
  refine g_iload_n X 1 d_D_levels_0 rfl rfl ?_
  rcases bR_or x with hb | ⟨r, hr, rfl⟩
  · exact g_ST X KOk.p s_D_20 (c_D_reqReg_x htr hb) d_D_levels_1 rfl ⟨Nat.le_of_ble_eq_true rfl, Nat.le_of_ble_eq_true rfl, Nat.le_of_ble_eq_true rfl, Nat.le_of_ble_eq_true rfl⟩ ⟨rfl, rfl⟩
  refine g_SP X KOk.p s_D_20 (c_D_reqReg htr hr) d_D_levels_1 rfl ⟨Nat.le_of_ble_eq_true rfl, Nat.le_of_ble_eq_true rfl, Nat.le_of_ble_eq_true rfl, Nat.le_of_ble_eq_true rfl⟩ ?_
  refine g_aload_n X 0 d_D_levels_4 rfl rfl ?_
  refine g_iload_n X 2 d_D_levels_5 rfl rfl ?_
  rcases h with h | h
  · exact absurd h (bR_no hr)
  · exact g_VT X KOk.p v_D_123 (dl_0) rfl (c_D_reqGr_x1 htr h) d_D_levels_6 rfl ⟨Nat.le_of_ble_eq_true rfl, Nat.le_of_ble_eq_true rfl, Nat.le_of_ble_eq_true rfl, Nat.le_of_ble_eq_true rfl⟩ ⟨rfl, rfl⟩
set_option maxHeartbeats 4000000 in
set_option maxRecDepth 100000 in
theorem c_D_levels_x2 {l : Launch} (htr : l.stackTraces = false) {δ : EX} {ad : Nat → Nat} {M : DS} {to a : Nat} {z : Int32} (hto : to < 6) (ha : a < 6) (hM : ∀ k, k < 7 → (M k).1 ≤ 8 ∧ (M k).2.1 ≤ 8) (h : ¬ (M a).1 = (M a).2.1) : CTP l y_D_levels cw_D_levels (RM 3) δ (dl δ ad M) [.ref (ad 0), .int (nI to), .int (nI a), .int z] (.inl 2) := by
  refine CT.ofP (lv := [(0, .ref (ad 0)), (1, .int (nI to)), (2, .int (nI a)), (3, .int z)]) (Or.inl ⟨rfl, rfl⟩) (by decide) htr rfl (Nat.le_of_ble_eq_true rfl) (fun κ hl X => ?_)
  subst hl
  refine g_iload_n X 1 d_D_levels_0 rfl rfl ?_
  refine g_SP X KOk.p s_D_20 (c_D_reqReg htr hto) d_D_levels_1 rfl ⟨Nat.le_of_ble_eq_true rfl, Nat.le_of_ble_eq_true rfl, Nat.le_of_ble_eq_true rfl, Nat.le_of_ble_eq_true rfl⟩ ?_
  refine g_aload_n X 0 d_D_levels_4 rfl rfl ?_
  refine g_iload_n X 2 d_D_levels_5 rfl rfl ?_
  exact g_VT X KOk.p v_D_123 (dl_0) rfl (c_D_reqGr_x2 htr ha hM h) d_D_levels_6 rfl ⟨Nat.le_of_ble_eq_true rfl, Nat.le_of_ble_eq_true rfl, Nat.le_of_ble_eq_true rfl, Nat.le_of_ble_eq_true rfl⟩ ⟨rfl, rfl⟩
set_option maxHeartbeats 4000000 in
set_option maxRecDepth 100000 in
theorem c_D_paths_x1 {l : Launch} (htr : l.stackTraces = false) {δ : EX} {ad : Nat → Nat} {M : DS} {x y : Int32} (h : bR x ∨ bR y) : CTP l y_D_paths cw_D_paths (RM 5) δ (dl δ ad M) [.ref (ad 0), .int x, .int y] (.inl 1) := by
  refine CT.ofP (lv := [(0, .ref (ad 0)), (1, .int x), (2, .int y)]) (Or.inl ⟨rfl, rfl⟩) (by decide) htr rfl (Nat.le_of_ble_eq_true rfl) (fun κ hl X => ?_)
  subst hl
  refine g_iload_n X 1 d_D_paths_0 rfl rfl ?_
  rcases bR_or x with hb | ⟨r, hr, rfl⟩
  · exact g_ST X KOk.p s_D_20 (c_D_reqReg_x htr hb) d_D_paths_1 rfl ⟨Nat.le_of_ble_eq_true rfl, Nat.le_of_ble_eq_true rfl, Nat.le_of_ble_eq_true rfl, Nat.le_of_ble_eq_true rfl⟩ ⟨rfl, rfl⟩
  refine g_SP X KOk.p s_D_20 (c_D_reqReg htr hr) d_D_paths_1 rfl ⟨Nat.le_of_ble_eq_true rfl, Nat.le_of_ble_eq_true rfl, Nat.le_of_ble_eq_true rfl, Nat.le_of_ble_eq_true rfl⟩ ?_
  refine g_aload_n X 0 d_D_paths_4 rfl rfl ?_
  refine g_iload_n X 2 d_D_paths_5 rfl rfl ?_
  rcases h with h | h
  · exact absurd h (bR_no hr)
  · exact g_VT X KOk.p v_D_123 (dl_0) rfl (c_D_reqGr_x1 htr h) d_D_paths_6 rfl ⟨Nat.le_of_ble_eq_true rfl, Nat.le_of_ble_eq_true rfl, Nat.le_of_ble_eq_true rfl, Nat.le_of_ble_eq_true rfl⟩ ⟨rfl, rfl⟩
set_option maxHeartbeats 4000000 in
set_option maxRecDepth 100000 in
theorem c_D_paths_x2 {l : Launch} (htr : l.stackTraces = false) {δ : EX} {ad : Nat → Nat} {M : DS} {to a : Nat} (hto : to < 6) (ha : a < 6) (hM : ∀ k, k < 7 → (M k).1 ≤ 8 ∧ (M k).2.1 ≤ 8) (h : ¬ (M a).1 = (M a).2.1) : CTP l y_D_paths cw_D_paths (RM 5) δ (dl δ ad M) [.ref (ad 0), .int (nI to), .int (nI a)] (.inl 2) := by
  refine CT.ofP (lv := [(0, .ref (ad 0)), (1, .int (nI to)), (2, .int (nI a))]) (Or.inl ⟨rfl, rfl⟩) (by decide) htr rfl (Nat.le_of_ble_eq_true rfl) (fun κ hl X => ?_)
  subst hl
  refine g_iload_n X 1 d_D_paths_0 rfl rfl ?_
  refine g_SP X KOk.p s_D_20 (c_D_reqReg htr hto) d_D_paths_1 rfl ⟨Nat.le_of_ble_eq_true rfl, Nat.le_of_ble_eq_true rfl, Nat.le_of_ble_eq_true rfl, Nat.le_of_ble_eq_true rfl⟩ ?_
  refine g_aload_n X 0 d_D_paths_4 rfl rfl ?_
  refine g_iload_n X 2 d_D_paths_5 rfl rfl ?_
  exact g_VT X KOk.p v_D_123 (dl_0) rfl (c_D_reqGr_x2 htr ha hM h) d_D_paths_6 rfl ⟨Nat.le_of_ble_eq_true rfl, Nat.le_of_ble_eq_true rfl, Nat.le_of_ble_eq_true rfl, Nat.le_of_ble_eq_true rfl⟩ ⟨rfl, rfl⟩
set_option maxHeartbeats 4000000 in
set_option maxRecDepth 100000 in
theorem c_D_components_x1 {l : Launch} (htr : l.stackTraces = false) {δ : EX} {ad : Nat → Nat} {M : DS} {x y : Int32} (h : bR x ∨ bR y) : CTP l y_D_components cw_D_components (RM 2) δ (dl δ ad M) [.ref (ad 0), .int x, .int y] (.inl 1) := by
  refine CT.ofP (lv := [(0, .ref (ad 0)), (1, .int x), (2, .int y)]) (Or.inl ⟨rfl, rfl⟩) (by decide) htr rfl (Nat.le_of_ble_eq_true rfl) (fun κ hl X => ?_)
  subst hl
  refine g_iload_n X 1 d_D_components_0 rfl rfl ?_
  rcases bR_or x with hb | ⟨r, hr, rfl⟩
  · exact g_ST X KOk.p s_D_20 (c_D_reqReg_x htr hb) d_D_components_1 rfl ⟨Nat.le_of_ble_eq_true rfl, Nat.le_of_ble_eq_true rfl, Nat.le_of_ble_eq_true rfl, Nat.le_of_ble_eq_true rfl⟩ ⟨rfl, rfl⟩
  refine g_SP X KOk.p s_D_20 (c_D_reqReg htr hr) d_D_components_1 rfl ⟨Nat.le_of_ble_eq_true rfl, Nat.le_of_ble_eq_true rfl, Nat.le_of_ble_eq_true rfl, Nat.le_of_ble_eq_true rfl⟩ ?_
  refine g_aload_n X 0 d_D_components_4 rfl rfl ?_
  refine g_iload_n X 2 d_D_components_5 rfl rfl ?_
  rcases h with h | h
  · exact absurd h (bR_no hr)
  · exact g_VT X KOk.p v_D_123 (dl_0) rfl (c_D_reqGr_x1 htr h) d_D_components_6 rfl ⟨Nat.le_of_ble_eq_true rfl, Nat.le_of_ble_eq_true rfl, Nat.le_of_ble_eq_true rfl, Nat.le_of_ble_eq_true rfl⟩ ⟨rfl, rfl⟩
set_option maxHeartbeats 4000000 in
set_option maxRecDepth 100000 in
theorem c_D_components_x2 {l : Launch} (htr : l.stackTraces = false) {δ : EX} {ad : Nat → Nat} {M : DS} {to a : Nat} (hto : to < 6) (ha : a < 6) (hM : ∀ k, k < 7 → (M k).1 ≤ 8 ∧ (M k).2.1 ≤ 8) (h : ¬ (M a).1 = (M a).2.1) : CTP l y_D_components cw_D_components (RM 2) δ (dl δ ad M) [.ref (ad 0), .int (nI to), .int (nI a)] (.inl 2) := by
  refine CT.ofP (lv := [(0, .ref (ad 0)), (1, .int (nI to)), (2, .int (nI a))]) (Or.inl ⟨rfl, rfl⟩) (by decide) htr rfl (Nat.le_of_ble_eq_true rfl) (fun κ hl X => ?_)
  subst hl
  refine g_iload_n X 1 d_D_components_0 rfl rfl ?_
  refine g_SP X KOk.p s_D_20 (c_D_reqReg htr hto) d_D_components_1 rfl ⟨Nat.le_of_ble_eq_true rfl, Nat.le_of_ble_eq_true rfl, Nat.le_of_ble_eq_true rfl, Nat.le_of_ble_eq_true rfl⟩ ?_
  refine g_aload_n X 0 d_D_components_4 rfl rfl ?_
  refine g_iload_n X 2 d_D_components_5 rfl rfl ?_
  exact g_VT X KOk.p v_D_123 (dl_0) rfl (c_D_reqGr_x2 htr ha hM h) d_D_components_6 rfl ⟨Nat.le_of_ble_eq_true rfl, Nat.le_of_ble_eq_true rfl, Nat.le_of_ble_eq_true rfl, Nat.le_of_ble_eq_true rfl⟩ ⟨rfl, rfl⟩
set_option maxHeartbeats 4000000 in
set_option maxRecDepth 100000 in
theorem c_D_levels_x3 {l : Launch} (htr : l.stackTraces = false) {δ : EX} {ad : Nat → Nat} {M : DS} {to a : Nat} {z : Int32} (hto : to < 6) (ha : a < 6) (hM : ∀ k, k < 7 → (M k).1 ≤ 8 ∧ (M k).2.1 ≤ 8) (hsq : (M a).1 = (M a).2.1) (h : z < 0 ∨ nI (M a).1 ≤ z) : CTP l y_D_levels cw_D_levels (RM 3) δ (dl δ ad M) [.ref (ad 0), .int (nI to), .int (nI a), .int z] (.inl 3) := by
  refine CT.ofP (lv := [(0, .ref (ad 0)), (1, .int (nI to)), (2, .int (nI a)), (3, .int z)]) (Or.inl ⟨rfl, rfl⟩) (by decide) htr rfl (Nat.le_of_ble_eq_true rfl) (fun κ hl X => ?_)
  subst hl
  refine g_iload_n X 1 d_D_levels_0 rfl rfl ?_
  refine g_SP X KOk.p s_D_20 (c_D_reqReg htr hto) d_D_levels_1 rfl ⟨Nat.le_of_ble_eq_true rfl, Nat.le_of_ble_eq_true rfl, Nat.le_of_ble_eq_true rfl, Nat.le_of_ble_eq_true rfl⟩ ?_
  refine g_aload_n X 0 d_D_levels_4 rfl rfl ?_
  refine g_iload_n X 2 d_D_levels_5 rfl rfl ?_
  refine g_VP X KOk.p v_D_123 (dl_0) rfl (c_D_reqGr htr ha hM hsq) d_D_levels_6 rfl ⟨Nat.le_of_ble_eq_true rfl, Nat.le_of_ble_eq_true rfl, Nat.le_of_ble_eq_true rfl, Nat.le_of_ble_eq_true rfl⟩ ?_
  refine g_aload_n X 0 d_D_levels_9 rfl rfl ?_
  refine r_regs X d_D_levels_10 ?_
  refine g_iload_n X 2 d_D_levels_13 rfl rfl ?_
  refine r_aald X rfl (by omega) d_D_levels_14 ?_
  refine g_astore X d_D_levels_15 (by decide) ?_
  refine g_aload X d_D_levels_17 rfl ?_
  refine g_iload_n X 3 d_D_levels_19 rfl rfl ?_
  exact g_ST X KOk.p s_D_126 (c_D_reqVe_x htr (by omega) h) d_D_levels_20 rfl ⟨Nat.le_of_ble_eq_true rfl, Nat.le_of_ble_eq_true rfl, Nat.le_of_ble_eq_true rfl, Nat.le_of_ble_eq_true rfl⟩ ⟨rfl, rfl⟩
def lvI (G : Mx) (v : Nat) (S : Mx) : Mx := fl (nlI G v) 0 G.1 S
set_option maxHeartbeats 4000000 in
set_option maxRecDepth 100000 in
theorem l_D_levels {κ : KX} {δ : EX} {ad : Nat → Nat} (X : XO κ R_D b_D_levels 7 (some .int) δ (RM 3) (Ar ad) []) (htr : (xl κ).stackTraces = false) (hinj : Inj ad) {M : DS} {P' : OC → va_W → Prop} {a to : Nat} (ha : a < 6) (h7 : (M a).1 ≤ 8) (h8 : (M a).2.1 ≤ 8) : ∀ n v S, v + n = (M a).1 → G κ 7 δ (Kn κ (Ar ad)) (Qe κ δ (Ar ad) P') 0 0 (dl δ ad (va_up M 6 (fl (lvI (M a)) v n S))) [(0, .ref (ad 0)), (1, .int (nI to)), (4, .ref (mq ad a)), (5, .ref (mq ad 6))] [] 71 → G κ 7 δ (Kn κ (Ar ad)) (Qe κ δ (Ar ad) P') 0 0 (dl δ ad (va_up M 6 S)) [(6, .int (nI v)), (0, .ref (ad 0)), (1, .int (nI to)), (4, .ref (mq ad a)), (5, .ref (mq ad 6))] [] 46 := by
  intro n
  induction n with
  | zero =>
    intro v S hv hx
    refine g_iload X d_D_levels_46 rfl ?_
    refine g_aload X d_D_levels_48 rfl ?_
    refine r_rows X kf_D_58 d_D_levels_50 (by omega) ?_
    rw [va_up6 ha]
    refine g_icmp_ge X 71 d_D_levels_53 (by decide) (fun hc => ?_) (fun hc => ?_)
    · exact g_sb hx ⟨rfl, rfl, rfl, rfl, trivial⟩
    · exact absurd (nI_le (by omega) (by omega)) hc
  | succ n ih =>
    intro v S hv hx
    refine g_iload X d_D_levels_46 rfl ?_
    refine g_aload X d_D_levels_48 rfl ?_
    refine r_rows X kf_D_58 d_D_levels_50 (by omega) ?_
    rw [va_up6 ha]
    refine g_icmp_ge X 71 d_D_levels_53 (by decide) (fun hc => ?_) (fun hc => ?_)
    · exact absurd hc (nI_ge (by omega) (by omega))
    · clear hc
      refine g_aload X d_D_levels_56 rfl ?_
      refine g_aload X d_D_levels_58 rfl ?_
      refine g_iload X d_D_levels_60 rfl ?_
      have hC := c_D_nl htr hinj (δ := δ) (M := va_up M 6 S) (a := a) (lev := v) ha (by rw [va_up6 ha]; exact h7) (by rw [va_up6 ha]; exact h8)
      rw [va_up6 ha, va_up_s, bx_uu] at hC
      refine g_SN1 X s_D_129 (hC) d_D_levels_62 rfl ⟨Nat.le_of_ble_eq_true rfl, Nat.le_of_ble_eq_true rfl, Nat.le_of_ble_eq_true rfl, Nat.le_of_ble_eq_true rfl⟩ ?_
      refine g_iinc X d_D_levels_65 rfl (nI_1 _) (by decide) ?_
      refine g_goto X 46 d_D_levels_68 (by decide) ?_
      exact g_sb (ih (v + 1) (lvI (M a) v S) (by omega) hx) ⟨rfl, rfl, rfl, rfl, rfl, trivial⟩
set_option maxHeartbeats 4000000 in
set_option maxRecDepth 100000 in
theorem c_D_levels {l : Launch} (htr : l.stackTraces = false) {δ : EX} {ad : Nat → Nat} {M : DS} (hinj : Inj ad) {to a v : Nat} (hto : to < 6) (ha : a < 6) (hM : ∀ k, k < 7 → (M k).1 ≤ 8 ∧ (M k).2.1 ≤ 8) (hsq : (M a).1 = (M a).2.1) (hv : v < (M a).1) : CTN l y_D_levels cw_D_levels (RM 3) δ (Ar ad) (dl δ ad M) [.ref (ad 0), .int (nI to), .int (nI a), .int (nI v)] (some (.int (nI (cnt (fl (lvI (M a)) 0 (M a).1 (mEnter (mClear (M 6) 1 (M a).2.1) (8 * 0 + v) 0)).2.2.2 64)))) (KW δ ad to M (fl (lvI (M a)) 0 (M a).1 (mEnter (mClear (M 6) 1 (M a).2.1) (8 * 0 + v) 0))) := by
  refine CT.ofN (lv := [(0, .ref (ad 0)), (1, .int (nI to)), (2, .int (nI a)), (3, .int (nI v))]) (Or.inl ⟨rfl, rfl⟩) (by decide) htr rfl (Nat.le_of_ble_eq_true rfl) (fun κ hl X => ?_)
  subst hl
  have h7 := (hM a (by omega)).1
  have h8 := (hM a (by omega)).2
  refine g_iload_n X 1 d_D_levels_0 rfl rfl ?_
  refine g_SP X KOk.n s_D_20 (c_D_reqReg htr hto) d_D_levels_1 rfl ⟨Nat.le_of_ble_eq_true rfl, Nat.le_of_ble_eq_true rfl, Nat.le_of_ble_eq_true rfl, Nat.le_of_ble_eq_true rfl⟩ ?_
  refine g_aload_n X 0 d_D_levels_4 rfl rfl ?_
  refine g_iload_n X 2 d_D_levels_5 rfl rfl ?_
  refine g_VP X KOk.n v_D_123 (dl_0) rfl (c_D_reqGr htr ha hM hsq) d_D_levels_6 rfl ⟨Nat.le_of_ble_eq_true rfl, Nat.le_of_ble_eq_true rfl, Nat.le_of_ble_eq_true rfl, Nat.le_of_ble_eq_true rfl⟩ ?_
  refine g_aload_n X 0 d_D_levels_9 rfl rfl ?_
  refine r_regs X d_D_levels_10 ?_
  refine g_iload_n X 2 d_D_levels_13 rfl rfl ?_
  refine r_aald X rfl (by omega) d_D_levels_14 ?_
  refine g_astore X d_D_levels_15 (by decide) ?_
  refine g_aload X d_D_levels_17 rfl ?_
  refine g_iload_n X 3 d_D_levels_19 rfl rfl ?_
  refine g_SP X KOk.n s_D_126 (c_D_reqVe htr (by omega) hv h7) d_D_levels_20 rfl ⟨Nat.le_of_ble_eq_true rfl, Nat.le_of_ble_eq_true rfl, Nat.le_of_ble_eq_true rfl, Nat.le_of_ble_eq_true rfl⟩ ?_
  refine g_aload_n X 0 d_D_levels_23 rfl rfl ?_
  refine g_iconst X (v := nI 1) d_D_levels_24 (by decide) ?_
  refine g_aload X d_D_levels_25 rfl ?_
  refine r_cols X kf_D_62 d_D_levels_27 (by omega) ?_
  refine g_VN1 X v_D_85 (dl_0) rfl (c_D_blank htr hinj) d_D_levels_30 rfl ⟨Nat.le_of_ble_eq_true rfl, Nat.le_of_ble_eq_true rfl, Nat.le_of_ble_eq_true rfl, Nat.le_of_ble_eq_true rfl⟩ ?_
  refine g_astore X d_D_levels_33 (by decide) ?_
  refine g_aload X d_D_levels_35 rfl ?_
  refine g_iconst X (v := nI 0) d_D_levels_37 (by decide) ?_
  refine g_iload_n X 3 d_D_levels_38 rfl rfl ?_
  refine g_lconst X (v := 0) d_D_levels_39 (by decide) ?_
  refine g_VN1 X v_D_39 (dl_m (by omega)) rfl (c_M_enter htr hinj (by decide) (by decide) (by omega)) d_D_levels_40 rfl ⟨Nat.le_of_ble_eq_true rfl, Nat.le_of_ble_eq_true rfl, Nat.le_of_ble_eq_true rfl, Nat.le_of_ble_eq_true rfl⟩ ?_
  rw [va_up_s, bx_uu]
  refine g_iconst X (v := nI 0) d_D_levels_43 (by decide) ?_
  refine g_istore X d_D_levels_44 (by decide) ?_
  refine g_sb (l_D_levels X htr hinj ha h7 h8 (M a).1 0 (mEnter (mClear (M 6) 1 (M a).2.1) (8 * 0 + v) 0) (by omega) ?_) ⟨rfl, rfl, rfl, rfl, rfl, trivial⟩
  refine g_aload_n X 0 d_D_levels_71 rfl rfl ?_
  refine g_iload_n X 1 d_D_levels_72 rfl rfl ?_
  have hK := c_D_keep htr hinj (δ := δ) (M := va_up M 6 (fl (lvI (M a)) 0 (M a).1 (mEnter (mClear (M 6) 1 (M a).2.1) (8 * 0 + v) 0))) hto
  rw [va_up_s] at hK
  refine g_VN1 X v_D_101 (dl_0) rfl (hK) d_D_levels_73 rfl ⟨Nat.le_of_ble_eq_true rfl, Nat.le_of_ble_eq_true rfl, Nat.le_of_ble_eq_true rfl, Nat.le_of_ble_eq_true rfl⟩ ?_
  exact g_iret X KOk.n d_D_levels_76 ⟨rfl, rfl⟩
def coj (j : Nat) (S : Mx) : Mx := mEnter S (8 * 0 + j) (nI j).toInt64
def coI (G : Mx) (_ : Nat) (S : Mx) : Mx := fl (spi G) 0 G.1 S
set_option maxHeartbeats 4000000 in
set_option maxRecDepth 100000 in
theorem l_D_coj {κ : KX} {δ : EX} {ad : Nat → Nat} (X : XO κ R_D b_D_components 6 (some .int) δ (RM 2) (Ar ad) []) (htr : (xl κ).stackTraces = false) (hinj : Inj ad) {M : DS} {P' : OC → va_W → Prop} {a to : Nat} (ha : a < 6) (h7 : (M a).1 ≤ 8) (h8 : (M a).2.1 ≤ 8) : ∀ n j S, j + n = (M a).2.1 → G κ 6 δ (Kn κ (Ar ad)) (Qe κ δ (Ar ad) P') 0 0 (dl δ ad (va_up M 6 (fl coj j n S))) [(0, .ref (ad 0)), (1, .int (nI to)), (3, .ref (mq ad a)), (4, .ref (mq ad 6))] [] 56 → G κ 6 δ (Kn κ (Ar ad)) (Qe κ δ (Ar ad) P') 0 0 (dl δ ad (va_up M 6 S)) [(5, .int (nI j)), (0, .ref (ad 0)), (1, .int (nI to)), (3, .ref (mq ad a)), (4, .ref (mq ad 6))] [] 30 := by
  intro n
  induction n with
  | zero =>
    intro j S hj hx
    refine g_iload X d_D_components_30 rfl ?_
    refine g_aload_n X 3 d_D_components_32 rfl rfl ?_
    refine r_cols X kf_D_62 d_D_components_33 (by omega) ?_
    rw [va_up6 ha]
    refine g_icmp_ge X 56 d_D_components_36 (by decide) (fun hc => ?_) (fun hc => ?_)
    · exact g_sb hx ⟨rfl, rfl, rfl, rfl, trivial⟩
    · exact absurd (nI_le (by omega) (by omega)) hc
  | succ n ih =>
    intro j S hj hx
    refine g_iload X d_D_components_30 rfl ?_
    refine g_aload_n X 3 d_D_components_32 rfl rfl ?_
    refine r_cols X kf_D_62 d_D_components_33 (by omega) ?_
    rw [va_up6 ha]
    refine g_icmp_ge X 56 d_D_components_36 (by decide) (fun hc => ?_) (fun hc => ?_)
    · exact absurd hc (nI_ge (by omega) (by omega))
    · clear hc
      refine g_aload X d_D_components_39 rfl ?_
      refine g_iconst X (v := nI 0) d_D_components_41 (by decide) ?_
      refine g_iload X d_D_components_42 rfl ?_
      refine g_iload X d_D_components_44 rfl ?_
      refine g_i2l X d_D_components_46 ?_
      refine g_VN1 X v_D_39 (dl_m (by omega)) rfl (c_M_enter htr hinj (by omega) (by decide) (by omega)) d_D_components_47 rfl ⟨Nat.le_of_ble_eq_true rfl, Nat.le_of_ble_eq_true rfl, Nat.le_of_ble_eq_true rfl, Nat.le_of_ble_eq_true rfl⟩ ?_
      rw [va_up_s, bx_uu]
      refine g_iinc X d_D_components_50 rfl (nI_1 _) (by decide) ?_
      refine g_goto X 30 d_D_components_53 (by decide) ?_
      exact g_sb (ih (j + 1) (coj j S) (by omega) hx) ⟨rfl, rfl, rfl, rfl, rfl, trivial⟩
set_option maxHeartbeats 4000000 in
set_option maxRecDepth 100000 in
theorem l_D_coI {κ : KX} {δ : EX} {ad : Nat → Nat} (X : XO κ R_D b_D_components 6 (some .int) δ (RM 2) (Ar ad) []) (htr : (xl κ).stackTraces = false) (hinj : Inj ad) {M : DS} {P' : OC → va_W → Prop} {a to : Nat} (ha : a < 6) (h7 : (M a).1 ≤ 8) (h8 : (M a).2.1 ≤ 8) : ∀ n v S, v + n = (M a).1 → G κ 6 δ (Kn κ (Ar ad)) (Qe κ δ (Ar ad) P') 0 0 (dl δ ad (va_up M 6 (fl (coI (M a)) v n S))) [(0, .ref (ad 0)), (1, .int (nI to)), (3, .ref (mq ad a)), (4, .ref (mq ad 6))] [] 80 → G κ 6 δ (Kn κ (Ar ad)) (Qe κ δ (Ar ad) P') 0 0 (dl δ ad (va_up M 6 S)) [(5, .int (nI v)), (0, .ref (ad 0)), (1, .int (nI to)), (3, .ref (mq ad a)), (4, .ref (mq ad 6))] [] 59 := by
  intro n
  induction n with
  | zero =>
    intro v S hv hx
    refine g_iload X d_D_components_59 rfl ?_
    refine g_aload_n X 3 d_D_components_61 rfl rfl ?_
    refine r_rows X kf_D_58 d_D_components_62 (by omega) ?_
    rw [va_up6 ha]
    refine g_icmp_ge X 80 d_D_components_65 (by decide) (fun hc => ?_) (fun hc => ?_)
    · exact g_sb hx ⟨rfl, rfl, rfl, rfl, trivial⟩
    · exact absurd (nI_le (by omega) (by omega)) hc
  | succ n ih =>
    intro v S hv hx
    refine g_iload X d_D_components_59 rfl ?_
    refine g_aload_n X 3 d_D_components_61 rfl rfl ?_
    refine r_rows X kf_D_58 d_D_components_62 (by omega) ?_
    rw [va_up6 ha]
    refine g_icmp_ge X 80 d_D_components_65 (by decide) (fun hc => ?_) (fun hc => ?_)
    · exact absurd hc (nI_ge (by omega) (by omega))
    · clear hc
      refine g_aload X d_D_components_68 rfl ?_
      refine g_aload_n X 3 d_D_components_70 rfl rfl ?_
      have hC := c_D_sp htr hinj (δ := δ) (M := va_up M 6 S) (a := a) ha (by rw [va_up6 ha]; exact h7) (by rw [va_up6 ha]; exact h8)
      rw [va_up6 ha, va_up_s, bx_uu] at hC
      refine g_SN1 X s_D_142 (hC) d_D_components_71 rfl ⟨Nat.le_of_ble_eq_true rfl, Nat.le_of_ble_eq_true rfl, Nat.le_of_ble_eq_true rfl, Nat.le_of_ble_eq_true rfl⟩ ?_
      refine g_iinc X d_D_components_74 rfl (nI_1 _) (by decide) ?_
      refine g_goto X 59 d_D_components_77 (by decide) ?_
      exact g_sb (ih (v + 1) (coI (M a) v S) (by omega) hx) ⟨rfl, rfl, rfl, rfl, rfl, trivial⟩
set_option maxHeartbeats 4000000 in
set_option maxRecDepth 100000 in
theorem c_D_components {l : Launch} (htr : l.stackTraces = false) {δ : EX} {ad : Nat → Nat} {M : DS} (hinj : Inj ad) {to a : Nat} (hto : to < 6) (ha : a < 6) (hM : ∀ k, k < 7 → (M k).1 ≤ 8 ∧ (M k).2.1 ≤ 8) (hsq : (M a).1 = (M a).2.1) : CTN l y_D_components cw_D_components (RM 2) δ (Ar ad) (dl δ ad M) [.ref (ad 0), .int (nI to), .int (nI a)] (some (.int (nI (cnt (fl (coI (M a)) 0 (M a).1 (fl coj 0 (M a).2.1 (mClear (M 6) 1 (M a).2.1))).2.2.2 64)))) (KW δ ad to M (fl (coI (M a)) 0 (M a).1 (fl coj 0 (M a).2.1 (mClear (M 6) 1 (M a).2.1)))) := by
  refine CT.ofN (lv := [(0, .ref (ad 0)), (1, .int (nI to)), (2, .int (nI a))]) (Or.inl ⟨rfl, rfl⟩) (by decide) htr rfl (Nat.le_of_ble_eq_true rfl) (fun κ hl X => ?_)
  subst hl
  have h7 := (hM a (by omega)).1
  have h8 := (hM a (by omega)).2
  refine g_iload_n X 1 d_D_components_0 rfl rfl ?_
  refine g_SP X KOk.n s_D_20 (c_D_reqReg htr hto) d_D_components_1 rfl ⟨Nat.le_of_ble_eq_true rfl, Nat.le_of_ble_eq_true rfl, Nat.le_of_ble_eq_true rfl, Nat.le_of_ble_eq_true rfl⟩ ?_
  refine g_aload_n X 0 d_D_components_4 rfl rfl ?_
  refine g_iload_n X 2 d_D_components_5 rfl rfl ?_
  refine g_VP X KOk.n v_D_123 (dl_0) rfl (c_D_reqGr htr ha hM hsq) d_D_components_6 rfl ⟨Nat.le_of_ble_eq_true rfl, Nat.le_of_ble_eq_true rfl, Nat.le_of_ble_eq_true rfl, Nat.le_of_ble_eq_true rfl⟩ ?_
  refine g_aload_n X 0 d_D_components_9 rfl rfl ?_
  refine r_regs X d_D_components_10 ?_
  refine g_iload_n X 2 d_D_components_13 rfl rfl ?_
  refine r_aald X rfl (by omega) d_D_components_14 ?_
  refine g_astore_n X 3 d_D_components_15 rfl (by decide) ?_
  refine g_aload_n X 0 d_D_components_16 rfl rfl ?_
  refine g_iconst X (v := nI 1) d_D_components_17 (by decide) ?_
  refine g_aload_n X 3 d_D_components_18 rfl rfl ?_
  refine r_cols X kf_D_62 d_D_components_19 (by omega) ?_
  refine g_VN1 X v_D_85 (dl_0) rfl (c_D_blank htr hinj) d_D_components_22 rfl ⟨Nat.le_of_ble_eq_true rfl, Nat.le_of_ble_eq_true rfl, Nat.le_of_ble_eq_true rfl, Nat.le_of_ble_eq_true rfl⟩ ?_
  refine g_astore X d_D_components_25 (by decide) ?_
  refine g_iconst X (v := nI 0) d_D_components_27 (by decide) ?_
  refine g_istore X d_D_components_28 (by decide) ?_
  refine g_sb (l_D_coj X htr hinj ha h7 h8 (M a).2.1 0 (mClear (M 6) 1 (M a).2.1) (by omega) ?_) ⟨rfl, rfl, rfl, rfl, rfl, trivial⟩
  refine g_iconst X (v := nI 0) d_D_components_56 (by decide) ?_
  refine g_istore X d_D_components_57 (by decide) ?_
  refine g_sb (l_D_coI X htr hinj ha h7 h8 (M a).1 0 (fl coj 0 (M a).2.1 (mClear (M 6) 1 (M a).2.1)) (by omega) ?_) ⟨rfl, rfl, rfl, rfl, rfl, trivial⟩
  refine g_aload_n X 0 d_D_components_80 rfl rfl ?_
  refine g_iload_n X 1 d_D_components_81 rfl rfl ?_
  have hK := c_D_keep htr hinj (δ := δ) (M := va_up M 6 (fl (coI (M a)) 0 (M a).1 (fl coj 0 (M a).2.1 (mClear (M 6) 1 (M a).2.1)))) hto
  rw [va_up_s] at hK
  refine g_VN1 X v_D_101 (dl_0) rfl (hK) d_D_components_82 rfl ⟨Nat.le_of_ble_eq_true rfl, Nat.le_of_ble_eq_true rfl, Nat.le_of_ble_eq_true rfl, Nat.le_of_ble_eq_true rfl⟩ ?_
  exact g_iret X KOk.n d_D_components_85 ⟨rfl, rfl⟩
set_option maxHeartbeats 4000000 in
set_option maxRecDepth 100000 in
theorem c_D_triangles_x1 {l : Launch} (htr : l.stackTraces = false) {δ : EX} {ad : Nat → Nat} {M : DS} {x : Int32} (h : bR x) : CTP l y_D_triangles cw_D_triangles (RM 2) δ (dl δ ad M) [.ref (ad 0), .int x] (.inl 1) := by
  refine CT.ofP (lv := [(0, .ref (ad 0)), (1, .int x)]) (Or.inl ⟨rfl, rfl⟩) (by decide) htr rfl (Nat.le_of_ble_eq_true rfl) (fun κ hl X => ?_)
  subst hl
  refine g_aload_n X 0 d_D_triangles_0 rfl rfl ?_
  refine g_iload_n X 1 d_D_triangles_1 rfl rfl ?_
  exact g_VT X KOk.p v_D_123 (dl_0) rfl (c_D_reqGr_x1 htr h) d_D_triangles_2 rfl ⟨Nat.le_of_ble_eq_true rfl, Nat.le_of_ble_eq_true rfl, Nat.le_of_ble_eq_true rfl, Nat.le_of_ble_eq_true rfl⟩ ⟨rfl, rfl⟩
set_option maxHeartbeats 4000000 in
set_option maxRecDepth 100000 in
theorem c_D_triangles_x2 {l : Launch} (htr : l.stackTraces = false) {δ : EX} {ad : Nat → Nat} {M : DS} {a : Nat} (ha : a < 6) (hM : ∀ k, k < 7 → (M k).1 ≤ 8 ∧ (M k).2.1 ≤ 8) (h : ¬ (M a).1 = (M a).2.1) : CTP l y_D_triangles cw_D_triangles (RM 2) δ (dl δ ad M) [.ref (ad 0), .int (nI a)] (.inl 2) := by
  refine CT.ofP (lv := [(0, .ref (ad 0)), (1, .int (nI a))]) (Or.inl ⟨rfl, rfl⟩) (by decide) htr rfl (Nat.le_of_ble_eq_true rfl) (fun κ hl X => ?_)
  subst hl
  refine g_aload_n X 0 d_D_triangles_0 rfl rfl ?_
  refine g_iload_n X 1 d_D_triangles_1 rfl rfl ?_
  exact g_VT X KOk.p v_D_123 (dl_0) rfl (c_D_reqGr_x2 htr ha hM h) d_D_triangles_2 rfl ⟨Nat.le_of_ble_eq_true rfl, Nat.le_of_ble_eq_true rfl, Nat.le_of_ble_eq_true rfl, Nat.le_of_ble_eq_true rfl⟩ ⟨rfl, rfl⟩
/-- triples: as the class counts them -/
def tgi (G : Mx) (t j i c : Nat) : Nat := if mHas G (8 * j + i) = true ∧ mHas G (8 * t + i) = true ∧ mHas G (8 * t + j) = true then c + 1 else c
def tgj (G : Mx) (t j c : Nat) : Nat := fl (tgi G t j) 0 j c
def tgt (G : Mx) (t c : Nat) : Nat := fl (tgj G t) 0 t c
set_option maxHeartbeats 4000000 in
set_option maxRecDepth 100000 in
theorem l_D_tgi {κ : KX} {δ : EX} {ad : Nat → Nat} (X : XO κ R_D b_D_triangles 7 (some .int) δ (RM 2) NoA []) (htr : (xl κ).stackTraces = false) {M : DS} {P' : OC → va_W → Prop} {a : Nat} (ha : a < 6) (h7 : (M a).1 ≤ 8) {t j : Nat} (htt : t < 8) (hjj : j < t) : ∀ n i c, i + n = j → G κ 7 δ (Kp κ) (Qe κ δ NoA P') 0 0 (dl δ ad M) [(4, .int (nI t)), (5, .int (nI j)), (3, .int (nI (fl (tgi (M a) t j) i n c))), (2, .ref (mq ad a))] [] 88 → G κ 7 δ (Kp κ) (Qe κ δ NoA P') 0 0 (dl δ ad M) [(6, .int (nI i)), (4, .int (nI t)), (5, .int (nI j)), (3, .int (nI c)), (2, .ref (mq ad a))] [] 39 := by
  intro n
  induction n with
  | zero =>
    intro i c hi hx
    refine g_iload X d_D_triangles_39 rfl ?_
    refine g_iload X d_D_triangles_41 rfl ?_
    refine g_icmp_ge X 88 d_D_triangles_43 (by decide) (fun hc => ?_) (fun hc => ?_)
    · exact g_sb hx ⟨rfl, rfl, rfl, rfl, trivial⟩
    · exact absurd (nI_le (by omega) (by omega)) hc
  | succ n ih =>
    intro i c hi hx
    refine g_iload X d_D_triangles_39 rfl ?_
    refine g_iload X d_D_triangles_41 rfl ?_
    refine g_icmp_ge X 88 d_D_triangles_43 (by decide) (fun hc => ?_) (fun hc => ?_)
    · exact absurd hc (nI_ge (by omega) (by omega))
    · clear hc
      have no : tgi (M a) t j i c = c → G κ 7 δ (Kp κ) (Qe κ δ NoA P') 0 0 (dl δ ad M) [(6, .int (nI i)), (4, .int (nI t)), (5, .int (nI j)), (3, .int (nI c)), (2, .ref (mq ad a))] [] 82 := fun e => by
        simp only [fl, e] at hx
        refine g_iinc X d_D_triangles_82 rfl (nI_1 _) (by decide) ?_
        refine g_goto X 39 d_D_triangles_85 (by decide) ?_
        exact g_sb (ih (i + 1) c (by omega) hx) ⟨rfl, rfl, rfl, rfl, rfl, trivial⟩
      refine g_aload_n X 2 d_D_triangles_46 rfl rfl ?_
      refine g_iload X d_D_triangles_47 rfl ?_
      refine g_iload X d_D_triangles_49 rfl ?_
      refine g_VP X KOk.p v_D_43 (dl_m (by omega)) rfl (c_M_has htr (by omega) (by omega) (by omega)) d_D_triangles_51 rfl ⟨Nat.le_of_ble_eq_true rfl, Nat.le_of_ble_eq_true rfl, Nat.le_of_ble_eq_true rfl, Nat.le_of_ble_eq_true rfl⟩ ?_
      refine g_if_eq X 82 d_D_triangles_54 (by decide) (fun hc => ?_) (fun hc => ?_)
      · have h := b2_0.mp hc
        exact no (by simp [tgi, h])
      have g1 := b2_t hc
      refine g_aload_n X 2 d_D_triangles_57 rfl rfl ?_
      refine g_iload X d_D_triangles_58 rfl ?_
      refine g_iload X d_D_triangles_60 rfl ?_
      refine g_VP X KOk.p v_D_43 (dl_m (by omega)) rfl (c_M_has htr (by omega) (by omega) (by omega)) d_D_triangles_62 rfl ⟨Nat.le_of_ble_eq_true rfl, Nat.le_of_ble_eq_true rfl, Nat.le_of_ble_eq_true rfl, Nat.le_of_ble_eq_true rfl⟩ ?_
      refine g_if_eq X 82 d_D_triangles_65 (by decide) (fun hd => ?_) (fun hd => ?_)
      · have h := b2_0.mp hd
        exact no (by simp [tgi, h])
      have g2 := b2_t hd
      refine g_aload_n X 2 d_D_triangles_68 rfl rfl ?_
      refine g_iload X d_D_triangles_69 rfl ?_
      refine g_iload X d_D_triangles_71 rfl ?_
      refine g_VP X KOk.p v_D_43 (dl_m (by omega)) rfl (c_M_has htr (by omega) (by omega) (by omega)) d_D_triangles_73 rfl ⟨Nat.le_of_ble_eq_true rfl, Nat.le_of_ble_eq_true rfl, Nat.le_of_ble_eq_true rfl, Nat.le_of_ble_eq_true rfl⟩ ?_
      refine g_if_eq X 82 d_D_triangles_76 (by decide) (fun he => ?_) (fun he => ?_)
      · have h := b2_0.mp he
        exact no (by simp [tgi, h])
      have g3 := b2_t he
      have e : tgi (M a) t j i c = c + 1 := by simp [tgi, g1, g2, g3]
      simp only [fl, e] at hx
      refine g_iinc X d_D_triangles_79 rfl (nI_1 _) (by decide) ?_
      refine g_iinc X d_D_triangles_82 rfl (nI_1 _) (by decide) ?_
      refine g_goto X 39 d_D_triangles_85 (by decide) ?_
      exact g_sb (ih (i + 1) (c + 1) (by omega) hx) ⟨rfl, rfl, rfl, rfl, rfl, trivial⟩
set_option maxHeartbeats 4000000 in
set_option maxRecDepth 100000 in
theorem l_D_tgj {κ : KX} {δ : EX} {ad : Nat → Nat} (X : XO κ R_D b_D_triangles 7 (some .int) δ (RM 2) NoA []) (htr : (xl κ).stackTraces = false) {M : DS} {P' : OC → va_W → Prop} {a : Nat} (ha : a < 6) (h7 : (M a).1 ≤ 8) {t : Nat} (htt : t < 8) : ∀ n j c, j + n = t → G κ 7 δ (Kp κ) (Qe κ δ NoA P') 0 0 (dl δ ad M) [(4, .int (nI t)), (3, .int (nI (fl (tgj (M a) t) j n c))), (2, .ref (mq ad a))] [] 94 → G κ 7 δ (Kp κ) (Qe κ δ NoA P') 0 0 (dl δ ad M) [(5, .int (nI j)), (4, .int (nI t)), (3, .int (nI c)), (2, .ref (mq ad a))] [] 29 := by
  intro n
  induction n with
  | zero =>
    intro j c hj hx
    refine g_iload X d_D_triangles_29 rfl ?_
    refine g_iload X d_D_triangles_31 rfl ?_
    refine g_icmp_ge X 94 d_D_triangles_33 (by decide) (fun hc => ?_) (fun hc => ?_)
    · exact g_sb hx ⟨rfl, rfl, rfl, trivial⟩
    · exact absurd (nI_le (by omega) (by omega)) hc
  | succ n ih =>
    intro j c hj hx
    refine g_iload X d_D_triangles_29 rfl ?_
    refine g_iload X d_D_triangles_31 rfl ?_
    refine g_icmp_ge X 94 d_D_triangles_33 (by decide) (fun hc => ?_) (fun hc => ?_)
    · exact absurd hc (nI_ge (by omega) (by omega))
    · clear hc
      refine g_iconst X (v := nI 0) d_D_triangles_36 (by decide) ?_
      refine g_istore X d_D_triangles_37 (by decide) ?_
      refine g_sb (l_D_tgi X htr ha h7 htt (by omega) j 0 c (by omega) ?_) ⟨rfl, rfl, rfl, rfl, rfl, trivial⟩
      refine g_iinc X d_D_triangles_88 rfl (nI_1 _) (by decide) ?_
      refine g_goto X 29 d_D_triangles_91 (by decide) ?_
      exact g_sb (ih (j + 1) (tgj (M a) t j c) (by omega) hx) ⟨rfl, rfl, rfl, rfl, trivial⟩
set_option maxHeartbeats 4000000 in
set_option maxRecDepth 100000 in
theorem l_D_tgt {κ : KX} {δ : EX} {ad : Nat → Nat} (X : XO κ R_D b_D_triangles 7 (some .int) δ (RM 2) NoA []) (htr : (xl κ).stackTraces = false) {M : DS} {P' : OC → va_W → Prop} {a : Nat} (ha : a < 6) (h7 : (M a).1 ≤ 8) : ∀ n t c, t + n = (M a).1 → G κ 7 δ (Kp κ) (Qe κ δ NoA P') 0 0 (dl δ ad M) [(3, .int (nI (fl (tgt (M a)) t n c))), (2, .ref (mq ad a))] [] 100 → G κ 7 δ (Kp κ) (Qe κ δ NoA P') 0 0 (dl δ ad M) [(4, .int (nI t)), (3, .int (nI c)), (2, .ref (mq ad a))] [] 17 := by
  intro n
  induction n with
  | zero =>
    intro t c ht hx
    refine g_iload X d_D_triangles_17 rfl ?_
    refine g_aload_n X 2 d_D_triangles_19 rfl rfl ?_
    refine r_rows X kf_D_58 d_D_triangles_20 (by omega) ?_
    refine g_icmp_ge X 100 d_D_triangles_23 (by decide) (fun hc => ?_) (fun hc => ?_)
    · exact g_sb hx ⟨rfl, rfl, trivial⟩
    · exact absurd (nI_le (by omega) (by omega)) hc
  | succ n ih =>
    intro t c ht hx
    refine g_iload X d_D_triangles_17 rfl ?_
    refine g_aload_n X 2 d_D_triangles_19 rfl rfl ?_
    refine r_rows X kf_D_58 d_D_triangles_20 (by omega) ?_
    refine g_icmp_ge X 100 d_D_triangles_23 (by decide) (fun hc => ?_) (fun hc => ?_)
    · exact absurd hc (nI_ge (by omega) (by omega))
    · clear hc
      refine g_iconst X (v := nI 0) d_D_triangles_26 (by decide) ?_
      refine g_istore X d_D_triangles_27 (by decide) ?_
      refine g_sb (l_D_tgj X htr ha h7 (by omega) t 0 c (by omega) ?_) ⟨rfl, rfl, rfl, rfl, trivial⟩
      refine g_iinc X d_D_triangles_94 rfl (nI_1 _) (by decide) ?_
      refine g_goto X 17 d_D_triangles_97 (by decide) ?_
      exact g_sb (ih (t + 1) (tgt (M a) t c) (by omega) hx) ⟨rfl, rfl, rfl, trivial⟩
set_option maxHeartbeats 4000000 in
set_option maxRecDepth 100000 in
theorem c_D_triangles {l : Launch} (htr : l.stackTraces = false) {δ : EX} {ad : Nat → Nat} {M : DS} {a : Nat} (ha : a < 6) (hM : ∀ k, k < 7 → (M k).1 ≤ 8 ∧ (M k).2.1 ≤ 8) (hsq : (M a).1 = (M a).2.1) : CTP l y_D_triangles cw_D_triangles (RM 2) δ (dl δ ad M) [.ref (ad 0), .int (nI a)] (.inr (some (.int (nI (fl (tgt (M a)) 0 (M a).1 0))))) := by
  refine CT.ofP (lv := [(0, .ref (ad 0)), (1, .int (nI a))]) (Or.inl ⟨rfl, rfl⟩) (by decide) htr rfl (Nat.le_of_ble_eq_true rfl) (fun κ hl X => ?_)
  subst hl
  refine g_aload_n X 0 d_D_triangles_0 rfl rfl ?_
  refine g_iload_n X 1 d_D_triangles_1 rfl rfl ?_
  refine g_VP X KOk.p v_D_123 (dl_0) rfl (c_D_reqGr htr ha hM hsq) d_D_triangles_2 rfl ⟨Nat.le_of_ble_eq_true rfl, Nat.le_of_ble_eq_true rfl, Nat.le_of_ble_eq_true rfl, Nat.le_of_ble_eq_true rfl⟩ ?_
  refine g_aload_n X 0 d_D_triangles_5 rfl rfl ?_
  refine r_regs X d_D_triangles_6 ?_
  refine g_iload_n X 1 d_D_triangles_9 rfl rfl ?_
  refine r_aald X rfl (by omega) d_D_triangles_10 ?_
  refine g_astore_n X 2 d_D_triangles_11 rfl (by decide) ?_
  refine g_iconst X (v := nI 0) d_D_triangles_12 (by decide) ?_
  refine g_istore_n X 3 d_D_triangles_13 rfl (by decide) ?_
  refine g_iconst X (v := nI 0) d_D_triangles_14 (by decide) ?_
  refine g_istore X d_D_triangles_15 (by decide) ?_
  refine g_sb (l_D_tgt X htr ha (hM a (by omega)).1 (M a).1 0 0 (by omega) ?_) ⟨rfl, rfl, rfl, trivial⟩
  refine g_iload_n X 3 d_D_triangles_100 rfl rfl ?_
  exact g_iret X KOk.p d_D_triangles_101 ⟨rfl, rfl⟩
end PC3
end
section
section PD
set_option maxHeartbeats 4000000 in
set_option maxRecDepth 100000 in
theorem c_D_paths_x4 {l : Launch} (htr : l.stackTraces = false) {δ : EX} {ad : Nat → Nat} {M : DS} {to a : Nat} (hto : to < 6) (ha : a < 6) (hM : ∀ k, k < 7 → (M k).1 ≤ 8 ∧ (M k).2.1 ≤ 8) (hsq : (M a).1 = (M a).2.1) (h : ¬ leL (M a)) : CTP l y_D_paths cw_D_paths (RM 5) δ (dl δ ad M) [.ref (ad 0), .int (nI to), .int (nI a)] (.inl 4) := by
  refine CT.ofP (lv := [(0, .ref (ad 0)), (1, .int (nI to)), (2, .int (nI a))]) (Or.inl ⟨rfl, rfl⟩) (by decide) htr rfl (Nat.le_of_ble_eq_true rfl) (fun κ hl X => ?_)
  subst hl
  refine g_iload_n X 1 d_D_paths_0 rfl rfl ?_
  refine g_SP X KOk.p s_D_20 (c_D_reqReg htr hto) d_D_paths_1 rfl ⟨Nat.le_of_ble_eq_true rfl, Nat.le_of_ble_eq_true rfl, Nat.le_of_ble_eq_true rfl, Nat.le_of_ble_eq_true rfl⟩ ?_
  refine g_aload_n X 0 d_D_paths_4 rfl rfl ?_
  refine g_iload_n X 2 d_D_paths_5 rfl rfl ?_
  refine g_VP X KOk.p v_D_123 (dl_0) rfl (c_D_reqGr htr ha hM hsq) d_D_paths_6 rfl ⟨Nat.le_of_ble_eq_true rfl, Nat.le_of_ble_eq_true rfl, Nat.le_of_ble_eq_true rfl, Nat.le_of_ble_eq_true rfl⟩ ?_
  refine g_aload_n X 0 d_D_paths_9 rfl rfl ?_
  refine r_regs X d_D_paths_10 ?_
  refine g_iload_n X 2 d_D_paths_13 rfl rfl ?_
  refine r_aald X rfl (by omega) d_D_paths_14 ?_
  refine g_astore_n X 3 d_D_paths_15 rfl (by decide) ?_
  refine g_aload_n X 3 d_D_paths_16 rfl rfl ?_
  exact g_ST X KOk.p s_D_132 (c_D_le_x htr ha (hM a (by omega)).1 (hM a (by omega)).2 h) d_D_paths_17 rfl ⟨Nat.le_of_ble_eq_true rfl, Nat.le_of_ble_eq_true rfl, Nat.le_of_ble_eq_true rfl, Nat.le_of_ble_eq_true rfl⟩ ⟨rfl, rfl⟩
def dgj (i : Nat) (S : Mx) : Option Mx := gaS 1 S (8 * i + i) 0
/-- is no vertex on a circle shorter than 0 -/
def ciB (S : Mx) : Bool := decide (∀ i, i < S.1 → ¬ mVal S (8 * i + i) < 0)
theorem ciB_t {S : Mx} (h : ciB S = true) : ciL S := by
  unfold ciB at h
  unfold ciL
  exact of_decide_eq_true h
theorem ciB_f {S : Mx} (h : ciB S = false) : ¬ ciL S := by
  unfold ciB at h
  unfold ciL
  exact of_decide_eq_false h
/-- over one vertex after the other -/
def paL (R C : Nat) : Nat → Nat → Mx → Nat ⊕ Mx
  | _, 0, S => .inr S
  | o, n + 1, S => match fo (shi C o) 0 R S with
    | none => .inl 4
    | some S' => if ciB S' = true then paL R C (o + 1) n S' else .inl 3
def paR (F S0 : Mx) : Nat ⊕ Mx := match (gA 1 F S0).bind (fo dgj 0 F.1) with
  | none => .inl 4
  | some S => paL F.1 F.2.1 0 F.1 S
def PP (δ : EX) (ad : Nat → Nat) (M : DS) (to : Nat) (o : Nat ⊕ Mx) : OC → va_W → Prop := fun r w => (∃ S, o = .inr S ∧ r = .inr (some (.int (nI (cnt S.2.2.2 64)))) ∧ w = KW δ ad to M S) ∨ (∃ z S, o = .inl z ∧ r = .inl z ∧ w = dl δ ad (va_up M 6 S))
set_option maxHeartbeats 4000000 in
set_option maxRecDepth 100000 in
theorem l_D_dg {κ : KX} {δ : EX} {ad : Nat → Nat} (X : XO κ R_D b_D_paths 6 (some .int) δ (RM 5) (Ar ad) []) (htr : (xl κ).stackTraces = false) (hinj : Inj ad) {M : DS} {P' : OC → va_W → Prop} {a to : Nat} (ha : a < 6) (h7 : (M a).1 ≤ 8) (h8 : (M a).2.1 ≤ 8) : ∀ n i S, i + n = (M a).1 → (∀ S', fo dgj i n S = some S' → G κ 6 δ (Kn κ (Ar ad)) (Qe κ δ (Ar ad) P') 0 0 (dl δ ad (va_up M 6 S')) [(0, .ref (ad 0)), (1, .int (nI to)), (3, .ref (mq ad a)), (4, .ref (mq ad 6))] [] 70) → (fo dgj i n S = none → ∀ S', P' (.inl 4) (dl δ ad (va_up M 6 S'))) → G κ 6 δ (Kn κ (Ar ad)) (Qe κ δ (Ar ad) P') 0 0 (dl δ ad (va_up M 6 S)) [(5, .int (nI i)), (0, .ref (ad 0)), (1, .int (nI to)), (3, .ref (mq ad a)), (4, .ref (mq ad 6))] [] 44 := by
  intro n
  induction n with
  | zero =>
    intro i S hi hx ht
    refine g_iload X d_D_paths_44 rfl ?_
    refine g_aload_n X 3 d_D_paths_46 rfl rfl ?_
    refine r_rows X kf_D_58 d_D_paths_47 (by omega) ?_
    rw [va_up6 ha]
    refine g_icmp_ge X 70 d_D_paths_50 (by decide) (fun hc => ?_) (fun hc => ?_)
    · exact g_sb (hx S rfl) ⟨rfl, rfl, rfl, rfl, trivial⟩
    · exact absurd (nI_le (by omega) (by omega)) hc
  | succ n ih =>
    intro i S hi hx ht
    refine g_iload X d_D_paths_44 rfl ?_
    refine g_aload_n X 3 d_D_paths_46 rfl rfl ?_
    refine r_rows X kf_D_58 d_D_paths_47 (by omega) ?_
    rw [va_up6 ha]
    refine g_icmp_ge X 70 d_D_paths_50 (by decide) (fun hc => ?_) (fun hc => ?_)
    · exact absurd hc (nI_ge (by omega) (by omega))
    · clear hc
      refine g_aload X d_D_paths_53 rfl ?_
      refine g_iload X d_D_paths_55 rfl ?_
      refine g_iload X d_D_paths_57 rfl ?_
      refine g_lconst X (v := 0) d_D_paths_59 (by decide) ?_
      refine g_iconst X (v := nI 1) d_D_paths_60 (by decide) ?_
      refine g_SPO X s_D_119 (c_D_gather htr hinj (by omega) (by omega) (by decide)) d_D_paths_61 rfl ⟨Nat.le_of_ble_eq_true rfl, Nat.le_of_ble_eq_true rfl, Nat.le_of_ble_eq_true rfl, Nat.le_of_ble_eq_true rfl⟩ (fun S' hS => ?_) (fun hS S' => ?_)
      · rw [va_up_s] at hS
        rw [fo_s (f := dgj) hS] at hx ht
        refine g_iinc X d_D_paths_64 rfl (nI_1 _) (by decide) ?_
        refine g_goto X 44 d_D_paths_67 (by decide) ?_
        exact g_sb (ih (i + 1) S' (by omega) hx ht) ⟨rfl, rfl, rfl, rfl, rfl, trivial⟩
      · rw [va_up_s] at hS
        exact ht (fo_n (f := dgj) hS) S'
set_option maxHeartbeats 4000000 in
set_option maxRecDepth 100000 in
theorem l_D_pa {κ : KX} {δ : EX} {ad : Nat → Nat} (X : XO κ R_D b_D_paths 6 (some .int) δ (RM 5) (Ar ad) []) (htr : (xl κ).stackTraces = false) (hinj : Inj ad) {M : DS} {P' : OC → va_W → Prop} {a to : Nat} (ha : a < 6) (h7 : (M a).1 ≤ 8) (h8 : (M a).2.1 ≤ 8) : ∀ n o S, o + n = (M a).1 → S.1 = (M a).1 → S.2.1 = (M a).2.1 → (∀ S', paL (M a).1 (M a).2.1 o n S = .inr S' → G κ 6 δ (Kn κ (Ar ad)) (Qe κ δ (Ar ad) P') 0 0 (dl δ ad (va_up M 6 S')) [(0, .ref (ad 0)), (1, .int (nI to)), (3, .ref (mq ad a)), (4, .ref (mq ad 6))] [] 100) → (∀ z, paL (M a).1 (M a).2.1 o n S = .inl z → ∀ S', P' (.inl z) (dl δ ad (va_up M 6 S'))) → G κ 6 δ (Kn κ (Ar ad)) (Qe κ δ (Ar ad) P') 0 0 (dl δ ad (va_up M 6 S)) [(5, .int (nI o)), (0, .ref (ad 0)), (1, .int (nI to)), (3, .ref (mq ad a)), (4, .ref (mq ad 6))] [] 73 := by
  intro n
  induction n with
  | zero =>
    intro o S ho h1 h2 hx ht
    refine g_iload X d_D_paths_73 rfl ?_
    refine g_aload_n X 3 d_D_paths_75 rfl rfl ?_
    refine r_rows X kf_D_58 d_D_paths_76 (by omega) ?_
    rw [va_up6 ha]
    refine g_icmp_ge X 100 d_D_paths_79 (by decide) (fun hc => ?_) (fun hc => ?_)
    · exact g_sb (hx S rfl) ⟨rfl, rfl, rfl, rfl, trivial⟩
    · exact absurd (nI_le (by omega) (by omega)) hc
  | succ n ih =>
    intro o S ho h1 h2 hx ht
    refine g_iload X d_D_paths_73 rfl ?_
    refine g_aload_n X 3 d_D_paths_75 rfl rfl ?_
    refine r_rows X kf_D_58 d_D_paths_76 (by omega) ?_
    rw [va_up6 ha]
    refine g_icmp_ge X 100 d_D_paths_79 (by decide) (fun hc => ?_) (fun hc => ?_)
    · exact absurd hc (nI_ge (by omega) (by omega))
    · clear hc
      refine g_aload X d_D_paths_82 rfl ?_
      refine g_iload X d_D_paths_84 rfl ?_
      refine g_SPO X s_D_136 (c_D_sh htr hinj (by omega) (by rw [va_up_s, h1]; exact h7) (by rw [va_up_s, h2]; exact h8)) d_D_paths_86 rfl ⟨Nat.le_of_ble_eq_true rfl, Nat.le_of_ble_eq_true rfl, Nat.le_of_ble_eq_true rfl, Nat.le_of_ble_eq_true rfl⟩ (fun S' hS => ?_) (fun hS S' => ?_)
      · rw [va_up_s, h1, h2] at hS
        have q := fo_sh (f := shi (M a).2.1 o) (fun i S S' h => fo_sh (f := shj o i) (fun _ _ _ h => shj_sh h) _ _ _ _ h) _ _ _ _ hS
        have k1 := q.1.trans h1
        have k2 := q.2.trans h2
        simp only [paL, hS] at hx ht
        refine g_aload X d_D_paths_89 rfl ?_
        cases hq : ciB S' with
        | true =>
          simp only [hq, if_true] at hx ht
          have hC := c_D_ci htr (δ := δ) (ad := ad) (M := va_up M 6 S') (by rw [va_up_s, k1]; exact h7) (by rw [va_up_s]; exact ciB_t hq)
          refine g_SP X KOk.n s_D_139 (hC) d_D_paths_91 rfl ⟨Nat.le_of_ble_eq_true rfl, Nat.le_of_ble_eq_true rfl, Nat.le_of_ble_eq_true rfl, Nat.le_of_ble_eq_true rfl⟩ ?_
          refine g_iinc X d_D_paths_94 rfl (nI_1 _) (by decide) ?_
          refine g_goto X 73 d_D_paths_97 (by decide) ?_
          exact g_sb (ih (o + 1) S' (by omega) k1 k2 hx ht) ⟨rfl, rfl, rfl, rfl, rfl, trivial⟩
        | false =>
          have hC := c_D_ci_x htr (δ := δ) (ad := ad) (M := va_up M 6 S') (by rw [va_up_s, k1]; exact h7) (by rw [va_up_s]; exact ciB_f hq)
          exact g_ST X KOk.n s_D_139 (hC) d_D_paths_91 rfl ⟨Nat.le_of_ble_eq_true rfl, Nat.le_of_ble_eq_true rfl, Nat.le_of_ble_eq_true rfl, Nat.le_of_ble_eq_true rfl⟩ (ht 3 (by simp [hq]) S')
      · rw [va_up_s, h1, h2] at hS
        exact ht 4 (by simp only [paL, hS]) S'
set_option maxHeartbeats 4000000 in
set_option maxRecDepth 100000 in
theorem c_D_paths {l : Launch} (htr : l.stackTraces = false) {δ : EX} {ad : Nat → Nat} {M : DS} (hinj : Inj ad) {to a : Nat} (hto : to < 6) (ha : a < 6) (hM : ∀ k, k < 7 → (M k).1 ≤ 8 ∧ (M k).2.1 ≤ 8) (hsq : (M a).1 = (M a).2.1) (hle : leL (M a)) : CT l y_D_paths cw_D_paths (RM 5) δ (Ar ad) (dl δ ad M) [.ref (ad 0), .int (nI to), .int (nI a)] (PP δ ad M to (paR (M a) (mClear (M 6) (M a).1 (M a).2.1))) := by
  refine CT.ofN (lv := [(0, .ref (ad 0)), (1, .int (nI to)), (2, .int (nI a))]) (Or.inl ⟨rfl, rfl⟩) (by decide) htr rfl (Nat.le_of_ble_eq_true rfl) (fun κ hl X => ?_)
  subst hl
  have h7 := (hM a (by omega)).1
  have h8 := (hM a (by omega)).2
  have gsh : ∀ S S', gA 1 (M a) S = some S' → S'.1 = S.1 ∧ S'.2.1 = S.2.1 := fun S S' h => fo_sh (f := gAi 1 (M a)) (fun i S S' h => fo_sh (f := gAj 1 (M a) i) (fun j S S' h => by
    unfold gAj at h
    split at h
    · exact gaS_sh h
    · cases h; exact ⟨rfl, rfl⟩) _ _ _ _ h) _ _ _ _ h
  refine g_iload_n X 1 d_D_paths_0 rfl rfl ?_
  refine g_SP X KOk.n s_D_20 (c_D_reqReg htr hto) d_D_paths_1 rfl ⟨Nat.le_of_ble_eq_true rfl, Nat.le_of_ble_eq_true rfl, Nat.le_of_ble_eq_true rfl, Nat.le_of_ble_eq_true rfl⟩ ?_
  refine g_aload_n X 0 d_D_paths_4 rfl rfl ?_
  refine g_iload_n X 2 d_D_paths_5 rfl rfl ?_
  refine g_VP X KOk.n v_D_123 (dl_0) rfl (c_D_reqGr htr ha hM hsq) d_D_paths_6 rfl ⟨Nat.le_of_ble_eq_true rfl, Nat.le_of_ble_eq_true rfl, Nat.le_of_ble_eq_true rfl, Nat.le_of_ble_eq_true rfl⟩ ?_
  refine g_aload_n X 0 d_D_paths_9 rfl rfl ?_
  refine r_regs X d_D_paths_10 ?_
  refine g_iload_n X 2 d_D_paths_13 rfl rfl ?_
  refine r_aald X rfl (by omega) d_D_paths_14 ?_
  refine g_astore_n X 3 d_D_paths_15 rfl (by decide) ?_
  refine g_aload_n X 3 d_D_paths_16 rfl rfl ?_
  refine g_SP X KOk.n s_D_132 (c_D_le htr ha h7 h8 hle) d_D_paths_17 rfl ⟨Nat.le_of_ble_eq_true rfl, Nat.le_of_ble_eq_true rfl, Nat.le_of_ble_eq_true rfl, Nat.le_of_ble_eq_true rfl⟩ ?_
  refine g_aload_n X 0 d_D_paths_20 rfl rfl ?_
  refine g_aload_n X 3 d_D_paths_21 rfl rfl ?_
  refine r_rows X kf_D_58 d_D_paths_22 (by omega) ?_
  refine g_aload_n X 3 d_D_paths_25 rfl rfl ?_
  refine r_cols X kf_D_62 d_D_paths_26 (by omega) ?_
  refine g_VN1 X v_D_85 (dl_0) rfl (c_D_blank htr hinj) d_D_paths_29 rfl ⟨Nat.le_of_ble_eq_true rfl, Nat.le_of_ble_eq_true rfl, Nat.le_of_ble_eq_true rfl, Nat.le_of_ble_eq_true rfl⟩ ?_
  refine g_astore X d_D_paths_32 (by decide) ?_
  refine g_aload X d_D_paths_34 rfl ?_
  refine g_aload_n X 3 d_D_paths_36 rfl rfl ?_
  refine g_iconst X (v := nI 1) d_D_paths_37 (by decide) ?_
  refine g_SPO X s_D_93 (c_D_gA htr hinj ha (by decide) (by rw [va_up6 ha]; exact h7) (by rw [va_up6 ha]; exact h8)) d_D_paths_38 rfl ⟨Nat.le_of_ble_eq_true rfl, Nat.le_of_ble_eq_true rfl, Nat.le_of_ble_eq_true rfl, Nat.le_of_ble_eq_true rfl⟩ (fun S1 g1 => ?_) (fun g1 S' => ?_)
  · rw [va_up_s, va_up6 ha] at g1
    have q1 := gsh _ _ g1
    refine g_iconst X (v := nI 0) d_D_paths_41 (by decide) ?_
    refine g_istore X d_D_paths_42 (by decide) ?_
    refine g_sb (l_D_dg X htr hinj ha h7 h8 (M a).1 0 S1 (by omega) (fun S2 g2 => ?_) (fun g2 S' => ?_)) ⟨rfl, rfl, rfl, rfl, rfl, trivial⟩
    · have q2 := fo_sh (f := dgj) (fun _ _ _ h => gaS_sh h) _ _ _ _ g2
      have e : paR (M a) (mClear (M 6) (M a).1 (M a).2.1) = paL (M a).1 (M a).2.1 0 (M a).1 S2 := by
        unfold paR
        rw [g1]
        simp only [Option.bind_some, g2]
      refine g_iconst X (v := nI 0) d_D_paths_70 (by decide) ?_
      refine g_istore X d_D_paths_71 (by decide) ?_
      refine g_sb (l_D_pa X htr hinj ha h7 h8 (M a).1 0 S2 (by omega) (q2.1.trans q1.1) (q2.2.trans q1.2) (fun S3 g3 => ?_) (fun z g3 S' => ?_)) ⟨rfl, rfl, rfl, rfl, rfl, trivial⟩
      · refine g_aload_n X 0 d_D_paths_100 rfl rfl ?_
        refine g_iload_n X 1 d_D_paths_101 rfl rfl ?_
        have hK := c_D_keep htr hinj (δ := δ) (M := va_up M 6 S3) hto
        rw [va_up_s] at hK
        refine g_VN1 X v_D_101 (dl_0) rfl (hK) d_D_paths_102 rfl ⟨Nat.le_of_ble_eq_true rfl, Nat.le_of_ble_eq_true rfl, Nat.le_of_ble_eq_true rfl, Nat.le_of_ble_eq_true rfl⟩ ?_
        exact g_iret X KOk.n d_D_paths_105 (Or.inl ⟨S3, e.trans g3, rfl, rfl⟩)
      · exact Or.inr ⟨z, S', e.trans g3, rfl, rfl⟩
    · refine Or.inr ⟨4, S', ?_, rfl, rfl⟩
      unfold paR
      rw [g1]
      simp only [Option.bind_some, g2]
  · rw [va_up_s, va_up6 ha] at g1
    refine Or.inr ⟨4, S', ?_, rfl, rfl⟩
    unfold paR
    rw [g1]
    rfl
end PD
end
section
section PE
def muI (k c : Nat) (L R : Mx) (mk : Nat → Bool) (i : Nat) (S : Mx) : Option Mx := fo (muj k L R mk i) 0 c S
theorem gpS_sh {k : Nat} {L R : Mx} {i j t : Nat} {S S' : Mx} (h : gpS k L R i j t S = some S') : S'.1 = S.1 ∧ S'.2.1 = S.2.1 := by
  unfold gpS at h
  split at h
  · cases hs : prS k (mVal L (8 * i + t)) (mVal R (8 * t + j)) with
    | none => rw [hs] at h; cases h
    | some z => rw [hs] at h; exact gaS_sh h
  · cases h; exact ⟨rfl, rfl⟩
theorem muj_sh {k : Nat} {L R : Mx} {mk : Nat → Bool} {i j : Nat} {S S' : Mx} (h : muj k L R mk i j S = some S') : S'.1 = S.1 ∧ S'.2.1 = S.2.1 := by
  unfold muj at h
  split at h
  · exact fo_sh (f := gpS k L R i j) (fun _ _ _ h => gpS_sh h) _ _ _ _ h
  · cases h; exact ⟨rfl, rfl⟩
theorem muI_sh {k c : Nat} {L R : Mx} {mk : Nat → Bool} {i : Nat} {S S' : Mx} (h : muI k c L R mk i S = some S') : S'.1 = S.1 ∧ S'.2.1 = S.2.1 := fo_sh (f := muj k L R mk i) (fun _ _ _ h => muj_sh h) _ _ _ _ h
theorem gA_sh {k : Nat} {F S S' : Mx} (h : gA k F S = some S') : S'.1 = S.1 ∧ S'.2.1 = S.2.1 := fo_sh (f := gAi k F) (fun i S S' h => fo_sh (f := gAj k F i) (fun j S S' h => by
  unfold gAj at h
  split at h
  · exact gaS_sh h
  · cases h; exact ⟨rfl, rfl⟩) _ _ _ _ h) _ _ _ _ h
theorem b2_inj {a b : Bool} (h : b2 a = b2 b) : a = b := by
  cases a <;> cases b <;> first | rfl | (exact absurd h (by decide))
/-- the mask, as the method looks at it -/
def MkOk (M : DS) (mv : Int32) (tu : Bool) (mk : Nat → Bool) : Prop := (mv = -1 ∧ ∀ p, mk p = true) ∨ ∃ m, m < 6 ∧ mv = nI m ∧ ∀ p, mk p = !(mHas (M m) p == tu)
theorem nI_m1 {m : Nat} (h : m < 6) : ¬ nI m = -1 := by
  intro q
  have : ¬ nI m < 0 := nI_pos (by omega)
  rw [q] at this
  exact this (by decide)
set_option maxHeartbeats 4000000 in
set_option maxRecDepth 100000 in
theorem l_D_mu_j {κ : KX} {δ : EX} {ad : Nat → Nat} (X : XO κ R_D b_D_multiply 14 (some .int) δ (RM 5) (Ar ad) []) (htr : (xl κ).stackTraces = false) (hinj : Inj ad) {M : DS} {P' : OC → va_W → Prop} {a b to k : Nat} {mv : Int32} {av tu : Bool} {mk : Nat → Bool} (ha : a < 6) (hb : b < 6) (hk : k < 4) (h9 : (M a).2.1 ≤ 8) (hmk : MkOk M mv tu mk) {R C : Nat} (h7 : R ≤ 8) (h8 : C ≤ 8) {i : Nat} (hi : i < 8) : ∀ n j S, j + n = C → S.1 = R → S.2.1 = C → (∀ S', fo (muj k (M a) (M b) mk i) j n S = some S' → G κ 14 δ (Kn κ (Ar ad)) (Qe κ δ (Ar ad) P') 0 0 (dl δ ad (va_up M 6 S')) [(12, .int (nI i)), (0, .ref (ad 0)), (1, .int (nI to)), (4, .int (nI k)), (5, .int mv), (7, .ref (mq ad a)), (8, .ref (mq ad b)), (9, .int (b2 av)), (10, .ref (mq ad 6)), (11, .int (b2 tu))] [] 244) → (fo (muj k (M a) (M b) mk i) j n S = none → ∀ S', P' (.inl 4) (dl δ ad (va_up M 6 S'))) → G κ 14 δ (Kn κ (Ar ad)) (Qe κ δ (Ar ad) P') 0 0 (dl δ ad (va_up M 6 S)) [(13, .int (nI j)), (12, .int (nI i)), (0, .ref (ad 0)), (1, .int (nI to)), (4, .int (nI k)), (5, .int mv), (7, .ref (mq ad a)), (8, .ref (mq ad b)), (9, .int (b2 av)), (10, .ref (mq ad 6)), (11, .int (b2 tu))] [] 188 := by
  intro n
  induction n with
  | zero =>
    intro j S hj h1 h2 hx ht
    refine g_iload X d_D_multiply_188 rfl ?_
    refine g_aload X d_D_multiply_190 rfl ?_
    refine r_cols X kf_D_62 d_D_multiply_192 (by omega) ?_
    rw [va_up_s, h2]
    refine g_icmp_ge X 244 d_D_multiply_195 (by decide) (fun hc => ?_) (fun hc => ?_)
    · exact g_sb (hx S rfl) ⟨rfl, rfl, rfl, rfl, rfl, rfl, rfl, rfl, rfl, rfl, trivial⟩
    · exact absurd (nI_le (by omega) (by omega)) hc
  | succ n ih =>
    intro j S hj h1 h2 hx ht
    refine g_iload X d_D_multiply_188 rfl ?_
    refine g_aload X d_D_multiply_190 rfl ?_
    refine r_cols X kf_D_62 d_D_multiply_192 (by omega) ?_
    rw [va_up_s, h2]
    refine g_icmp_ge X 244 d_D_multiply_195 (by decide) (fun hc => ?_) (fun hc => ?_)
    · exact absurd hc (nI_ge (by omega) (by omega))
    · clear hc
      refine g_iload X d_D_multiply_198 rfl ?_
      refine g_iconst X (v := (-1)) d_D_multiply_200 (by decide) ?_
      refine g_icmp_eq X 223 d_D_multiply_201 (by decide) (fun hc => ?_) (fun hc => ?_)
      · have hm : mk (8 * i + j) = true := by
          rcases hmk with ⟨-, q⟩ | ⟨m, q1, q2, -⟩
          · exact q _
          · exact absurd (q2.symm.trans hc) (nI_m1 q1)
        refine g_aload X d_D_multiply_223 rfl ?_
        refine g_aload X d_D_multiply_225 rfl ?_
        refine g_aload X d_D_multiply_227 rfl ?_
        refine g_iload X d_D_multiply_229 rfl ?_
        refine g_iload X d_D_multiply_231 rfl ?_
        refine g_iload X d_D_multiply_233 rfl ?_
        refine g_SPO X s_D_89 (c_D_gp htr hinj ha hb hi (by omega) hk (by rw [va_up6 ha]; exact h9)) d_D_multiply_235 rfl ⟨Nat.le_of_ble_eq_true rfl, Nat.le_of_ble_eq_true rfl, Nat.le_of_ble_eq_true rfl, Nat.le_of_ble_eq_true rfl⟩ (fun S' hS => ?_) (fun hS S' => ?_)
        · rw [va_up_s, va_up6 ha, va_up6 hb] at hS
          have e : muj k (M a) (M b) mk i j S = some S' := by simp only [muj]; rw [if_pos hm]; exact hS
          have q := muj_sh e
          rw [fo_s (f := muj k (M a) (M b) mk i) e] at hx ht
          refine g_iinc X d_D_multiply_238 rfl (nI_1 _) (by decide) ?_
          refine g_goto X 188 d_D_multiply_241 (by decide) ?_
          exact g_sb (ih (j + 1) S' (by omega) (q.1.trans h1) (q.2.trans h2) hx ht) ⟨rfl, rfl, rfl, rfl, rfl, rfl, rfl, rfl, rfl, rfl, rfl, trivial⟩
        · rw [va_up_s, va_up6 ha, va_up6 hb] at hS
          have e : muj k (M a) (M b) mk i j S = none := by simp only [muj]; rw [if_pos hm]; exact hS
          exact ht (fo_n (f := muj k (M a) (M b) mk i) e) S'
      · rcases hmk with ⟨q, -⟩ | ⟨m, q1, q2, q3⟩
        · exact absurd q hc
        subst q2
        refine g_aload_n X 0 d_D_multiply_204 rfl rfl ?_
        refine r_regs X d_D_multiply_205 ?_
        refine g_iload X d_D_multiply_208 rfl ?_
        refine r_aald X rfl (by omega) d_D_multiply_210 ?_
        refine g_iload X d_D_multiply_211 rfl ?_
        refine g_iload X d_D_multiply_213 rfl ?_
        refine g_VP X KOk.n v_D_43 (dl_m (by omega)) rfl (c_M_has htr (by omega) hi (by omega)) d_D_multiply_215 rfl ⟨Nat.le_of_ble_eq_true rfl, Nat.le_of_ble_eq_true rfl, Nat.le_of_ble_eq_true rfl, Nat.le_of_ble_eq_true rfl⟩ ?_
        rw [va_up6 q1]
        refine g_iload X d_D_multiply_218 rfl ?_
        refine g_icmp_eq X 238 d_D_multiply_220 (by decide) (fun hd => ?_) (fun hd => ?_)
        · have hm : ¬ mk (8 * i + j) = true := by
            rw [q3, b2_inj hd]
            simp
          have e : muj k (M a) (M b) mk i j S = some S := by simp only [muj]; rw [if_neg hm]
          rw [fo_s (f := muj k (M a) (M b) mk i) e] at hx ht
          refine g_iinc X d_D_multiply_238 rfl (nI_1 _) (by decide) ?_
          refine g_goto X 188 d_D_multiply_241 (by decide) ?_
          exact g_sb (ih (j + 1) S (by omega) h1 h2 hx ht) ⟨rfl, rfl, rfl, rfl, rfl, rfl, rfl, rfl, rfl, rfl, rfl, trivial⟩
        · have hm : mk (8 * i + j) = true := by
            rw [q3]
            have : ¬ mHas (M m) (8 * i + j) = tu := fun z => hd (by rw [z])
            simp [this]
          refine g_aload X d_D_multiply_223 rfl ?_
          refine g_aload X d_D_multiply_225 rfl ?_
          refine g_aload X d_D_multiply_227 rfl ?_
          refine g_iload X d_D_multiply_229 rfl ?_
          refine g_iload X d_D_multiply_231 rfl ?_
          refine g_iload X d_D_multiply_233 rfl ?_
          refine g_SPO X s_D_89 (c_D_gp htr hinj ha hb hi (by omega) hk (by rw [va_up6 ha]; exact h9)) d_D_multiply_235 rfl ⟨Nat.le_of_ble_eq_true rfl, Nat.le_of_ble_eq_true rfl, Nat.le_of_ble_eq_true rfl, Nat.le_of_ble_eq_true rfl⟩ (fun S' hS => ?_) (fun hS S' => ?_)
          · rw [va_up_s, va_up6 ha, va_up6 hb] at hS
            have e : muj k (M a) (M b) mk i j S = some S' := by simp only [muj]; rw [if_pos hm]; exact hS
            have q := muj_sh e
            rw [fo_s (f := muj k (M a) (M b) mk i) e] at hx ht
            refine g_iinc X d_D_multiply_238 rfl (nI_1 _) (by decide) ?_
            refine g_goto X 188 d_D_multiply_241 (by decide) ?_
            exact g_sb (ih (j + 1) S' (by omega) (q.1.trans h1) (q.2.trans h2) hx ht) ⟨rfl, rfl, rfl, rfl, rfl, rfl, rfl, rfl, rfl, rfl, rfl, trivial⟩
          · rw [va_up_s, va_up6 ha, va_up6 hb] at hS
            have e : muj k (M a) (M b) mk i j S = none := by simp only [muj]; rw [if_pos hm]; exact hS
            exact ht (fo_n (f := muj k (M a) (M b) mk i) e) S'
set_option maxHeartbeats 4000000 in
set_option maxRecDepth 100000 in
theorem l_D_mu_i {κ : KX} {δ : EX} {ad : Nat → Nat} (X : XO κ R_D b_D_multiply 14 (some .int) δ (RM 5) (Ar ad) []) (htr : (xl κ).stackTraces = false) (hinj : Inj ad) {M : DS} {P' : OC → va_W → Prop} {a b to k : Nat} {mv : Int32} {av tu : Bool} {mk : Nat → Bool} (ha : a < 6) (hb : b < 6) (hk : k < 4) (h9 : (M a).2.1 ≤ 8) (hmk : MkOk M mv tu mk) {R C : Nat} (h7 : R ≤ 8) (h8 : C ≤ 8) : ∀ n i S, i + n = R → S.1 = R → S.2.1 = C → (∀ S', fo (muI k C (M a) (M b) mk) i n S = some S' → G κ 14 δ (Kn κ (Ar ad)) (Qe κ δ (Ar ad) P') 0 0 (dl δ ad (va_up M 6 S')) [(0, .ref (ad 0)), (1, .int (nI to)), (4, .int (nI k)), (5, .int mv), (7, .ref (mq ad a)), (8, .ref (mq ad b)), (9, .int (b2 av)), (10, .ref (mq ad 6)), (11, .int (b2 tu))] [] 250) → (fo (muI k C (M a) (M b) mk) i n S = none → ∀ S', P' (.inl 4) (dl δ ad (va_up M 6 S'))) → G κ 14 δ (Kn κ (Ar ad)) (Qe κ δ (Ar ad) P') 0 0 (dl δ ad (va_up M 6 S)) [(12, .int (nI i)), (0, .ref (ad 0)), (1, .int (nI to)), (4, .int (nI k)), (5, .int mv), (7, .ref (mq ad a)), (8, .ref (mq ad b)), (9, .int (b2 av)), (10, .ref (mq ad 6)), (11, .int (b2 tu))] [] 175 := by
  intro n
  induction n with
  | zero =>
    intro i S hi h1 h2 hx ht
    refine g_iload X d_D_multiply_175 rfl ?_
    refine g_aload X d_D_multiply_177 rfl ?_
    refine r_rows X kf_D_58 d_D_multiply_179 (by omega) ?_
    rw [va_up_s, h1]
    refine g_icmp_ge X 250 d_D_multiply_182 (by decide) (fun hc => ?_) (fun hc => ?_)
    · exact g_sb (hx S rfl) ⟨rfl, rfl, rfl, rfl, rfl, rfl, rfl, rfl, rfl, trivial⟩
    · exact absurd (nI_le (by omega) (by omega)) hc
  | succ n ih =>
    intro i S hi h1 h2 hx ht
    refine g_iload X d_D_multiply_175 rfl ?_
    refine g_aload X d_D_multiply_177 rfl ?_
    refine r_rows X kf_D_58 d_D_multiply_179 (by omega) ?_
    rw [va_up_s, h1]
    refine g_icmp_ge X 250 d_D_multiply_182 (by decide) (fun hc => ?_) (fun hc => ?_)
    · exact absurd hc (nI_ge (by omega) (by omega))
    · clear hc
      refine g_iconst X (v := nI 0) d_D_multiply_185 (by decide) ?_
      refine g_istore X d_D_multiply_186 (by decide) ?_
      refine g_sb (l_D_mu_j X htr hinj ha hb hk h9 hmk h7 h8 (by omega) C 0 S (by omega) h1 h2 (fun S' hS => ?_) (fun hS S' => ?_)) ⟨rfl, rfl, rfl, rfl, rfl, rfl, rfl, rfl, rfl, rfl, rfl, trivial⟩
      · rw [fo_s (f := muI k C (M a) (M b) mk) hS] at hx ht
        have q := muI_sh (c := C) hS
        have k1 := q.1.trans h1
        have k2 := q.2.trans h2
        refine g_iinc X d_D_multiply_244 rfl (nI_1 _) (by decide) ?_
        refine g_goto X 175 d_D_multiply_247 (by decide) ?_
        exact g_sb (ih (i + 1) S' (by omega) k1 k2 hx ht) ⟨rfl, rfl, rfl, rfl, rfl, rfl, rfl, rfl, rfl, rfl, trivial⟩
      · exact ht (fo_n (f := muI k C (M a) (M b) mk) hS) S'
theorem and1 {h : Nat} (hh : h ≤ 3) : nI h &&& 1 = b2 (decide (h % 2 = 1)) := by
  obtain rfl | rfl | rfl | rfl : h = 0 ∨ h = 1 ∨ h = 2 ∨ h = 3 := by omega
  all_goals decide
theorem and2 {h : Nat} (hh : h ≤ 3) : nI h &&& 2 = 0 ↔ ¬ 2 ≤ h := by
  obtain rfl | rfl | rfl | rfl : h = 0 ∨ h = 1 ∨ h = 2 ∨ h = 3 := by omega
  all_goals decide
set_option maxHeartbeats 4000000 in
set_option maxRecDepth 100000 in
theorem l_D_mu_t {κ : KX} {δ : EX} {ad : Nat → Nat} (X : XO κ R_D b_D_multiply 14 (some .int) δ (RM 5) (Ar ad) []) (htr : (xl κ).stackTraces = false) (hinj : Inj ad) {M : DS} {a b to k hw : Nat} {mv : Int32} {av : Bool} {mk : Nat → Bool} (hto : to < 6) (ha : a < 6) (hb : b < 6) (hk : k < 4) (hM : ∀ k, k < 7 → (M k).1 ≤ 8 ∧ (M k).2.1 ≤ 8) (hhw : hw ≤ 3) (hmk : MkOk M mv (decide (hw % 2 = 1)) mk) : G κ 14 δ (Kn κ (Ar ad)) (Qe κ δ (Ar ad) (PS δ ad M to (((fo (muI k (M b).2.1 (M a) (M b) mk) 0 (M a).1 (mClear (M 6) (M a).1 (M b).2.1)).bind (fun S => if av = true then gA k (M to) S else some S)).map (dz k)))) 0 0 (dl δ ad M) [(0, .ref (ad 0)), (1, .int (nI to)), (4, .int (nI k)), (5, .int mv), (6, .int (nI hw)), (7, .ref (mq ad a)), (8, .ref (mq ad b)), (9, .int (b2 av))] [] 142 := by
  have h9 := (hM a (by omega)).2
  refine g_aload_n X 0 d_D_multiply_142 rfl rfl ?_
  refine g_aload X d_D_multiply_143 rfl ?_
  refine r_rows X kf_D_58 d_D_multiply_145 (by omega) ?_
  refine g_aload X d_D_multiply_148 rfl ?_
  refine r_cols X kf_D_62 d_D_multiply_150 (by omega) ?_
  refine g_VN1 X v_D_85 (dl_0) rfl (c_D_blank htr hinj) d_D_multiply_153 rfl ⟨Nat.le_of_ble_eq_true rfl, Nat.le_of_ble_eq_true rfl, Nat.le_of_ble_eq_true rfl, Nat.le_of_ble_eq_true rfl⟩ ?_
  refine g_astore X d_D_multiply_156 (by decide) ?_
  refine g_iload X d_D_multiply_158 rfl ?_
  refine g_iconst X (v := 1) d_D_multiply_160 (by decide) ?_
  refine g_iand X d_D_multiply_161 ?_
  refine g_ei (and1 hhw) ?_
  refine g_if_eq X 169 d_D_multiply_162 (by decide) (fun hc => ?_) (fun hc => ?_)
  · have e := b2_0.mp hc
    rw [e] at hmk
    refine g_iconst X (v := b2 false) d_D_multiply_169 (by decide) ?_
    refine g_istore X d_D_multiply_170 (by decide) ?_
    refine g_iconst X (v := nI 0) d_D_multiply_172 (by decide) ?_
    refine g_istore X d_D_multiply_173 (by decide) ?_
    refine g_sb (l_D_mu_i X htr hinj ha hb hk h9 (tu := false) (av := av) hmk (hM a (by omega)).1 (hM b (by omega)).2 (M a).1 0 (mClear (M 6) (M a).1 (M b).2.1) (by omega) rfl rfl (fun S1 g1 => ?_) (fun g1 S' => ?_)) ⟨rfl, rfl, rfl, rfl, rfl, rfl, rfl, rfl, rfl, rfl, trivial⟩
    · have q1 := fo_sh (f := muI k (M b).2.1 (M a) (M b) mk) (fun _ _ _ h => muI_sh h) _ _ _ _ g1
      refine g_iload X d_D_multiply_250 rfl ?_
      refine g_if_eq X 268 d_D_multiply_252 (by decide) (fun hc => ?_) (fun hc => ?_)
      · have ha0 : av = false := b2_0.mp hc
        have k1 : S1.1 ≤ 8 := by rw [q1.1]; exact (hM a (by omega)).1
        have k2 : S1.2.1 ≤ 8 := by rw [q1.2]; exact (hM b (by omega)).2
        refine g_aload X d_D_multiply_268 rfl ?_
        refine g_iload X d_D_multiply_270 rfl ?_
        have hZ := c_D_dz htr hinj (δ := δ) (M := (va_up M 6 S1)) hk (by rw [va_up_s]; exact k1) (by rw [va_up_s]; exact k2)
        rw [va_up_s, bx_uu] at hZ
        refine g_SN1 X s_D_97 (hZ) d_D_multiply_272 rfl ⟨Nat.le_of_ble_eq_true rfl, Nat.le_of_ble_eq_true rfl, Nat.le_of_ble_eq_true rfl, Nat.le_of_ble_eq_true rfl⟩ ?_
        refine g_aload_n X 0 d_D_multiply_275 rfl rfl ?_
        refine g_iload_n X 1 d_D_multiply_276 rfl rfl ?_
        have hK := c_D_keep htr hinj (δ := δ) (M := va_up M 6 (dz k S1)) hto
        rw [va_up_s] at hK
        refine g_VN1 X v_D_101 (dl_0) rfl (hK) d_D_multiply_277 rfl ⟨Nat.le_of_ble_eq_true rfl, Nat.le_of_ble_eq_true rfl, Nat.le_of_ble_eq_true rfl, Nat.le_of_ble_eq_true rfl⟩ ?_
        exact g_iret X KOk.n d_D_multiply_280 (Or.inl ⟨dz k S1, by rw [g1]; simp [ha0], rfl, rfl⟩)
      · have ha1 : av = true := b2_t hc
        refine g_aload X d_D_multiply_255 rfl ?_
        refine g_aload_n X 0 d_D_multiply_257 rfl rfl ?_
        refine r_regs X d_D_multiply_258 ?_
        refine g_iload_n X 1 d_D_multiply_261 rfl rfl ?_
        refine r_aald X rfl (by omega) d_D_multiply_262 ?_
        refine g_iload X d_D_multiply_263 rfl ?_
        refine g_SPO X s_D_93 (c_D_gA htr hinj hto hk (by rw [va_up6 hto]; exact (hM to (by omega)).1) (by rw [va_up6 hto]; exact (hM to (by omega)).2)) d_D_multiply_265 rfl ⟨Nat.le_of_ble_eq_true rfl, Nat.le_of_ble_eq_true rfl, Nat.le_of_ble_eq_true rfl, Nat.le_of_ble_eq_true rfl⟩ (fun S2 g2 => ?_) (fun g2 S' => ?_)
        · rw [va_up_s, va_up6 hto] at g2
          have q2 := gA_sh g2
          have k1 : S2.1 ≤ 8 := by rw [q2.1, q1.1]; exact (hM a (by omega)).1
          have k2 : S2.2.1 ≤ 8 := by rw [q2.2, q1.2]; exact (hM b (by omega)).2
          refine g_aload X d_D_multiply_268 rfl ?_
          refine g_iload X d_D_multiply_270 rfl ?_
          have hZ := c_D_dz htr hinj (δ := δ) (M := (va_up M 6 S2)) hk (by rw [va_up_s]; exact k1) (by rw [va_up_s]; exact k2)
          rw [va_up_s, bx_uu] at hZ
          refine g_SN1 X s_D_97 (hZ) d_D_multiply_272 rfl ⟨Nat.le_of_ble_eq_true rfl, Nat.le_of_ble_eq_true rfl, Nat.le_of_ble_eq_true rfl, Nat.le_of_ble_eq_true rfl⟩ ?_
          refine g_aload_n X 0 d_D_multiply_275 rfl rfl ?_
          refine g_iload_n X 1 d_D_multiply_276 rfl rfl ?_
          have hK := c_D_keep htr hinj (δ := δ) (M := va_up M 6 (dz k S2)) hto
          rw [va_up_s] at hK
          refine g_VN1 X v_D_101 (dl_0) rfl (hK) d_D_multiply_277 rfl ⟨Nat.le_of_ble_eq_true rfl, Nat.le_of_ble_eq_true rfl, Nat.le_of_ble_eq_true rfl, Nat.le_of_ble_eq_true rfl⟩ ?_
          exact g_iret X KOk.n d_D_multiply_280 (Or.inl ⟨dz k S2, by rw [g1]; simp [ha1, g2], rfl, rfl⟩)
        · rw [va_up_s, va_up6 hto] at g2
          exact Or.inr ⟨by rw [g1]; simp [ha1, g2], rfl, S', rfl⟩
    · exact Or.inr ⟨by rw [g1]; rfl, rfl, S', rfl⟩
  · have e := b2_t hc
    rw [e] at hmk
    refine g_iconst X (v := b2 true) d_D_multiply_165 (by decide) ?_
    refine g_goto X 170 d_D_multiply_166 (by decide) ?_
    refine g_istore X d_D_multiply_170 (by decide) ?_
    refine g_iconst X (v := nI 0) d_D_multiply_172 (by decide) ?_
    refine g_istore X d_D_multiply_173 (by decide) ?_
    refine g_sb (l_D_mu_i X htr hinj ha hb hk h9 (tu := true) (av := av) hmk (hM a (by omega)).1 (hM b (by omega)).2 (M a).1 0 (mClear (M 6) (M a).1 (M b).2.1) (by omega) rfl rfl (fun S1 g1 => ?_) (fun g1 S' => ?_)) ⟨rfl, rfl, rfl, rfl, rfl, rfl, rfl, rfl, rfl, rfl, trivial⟩
    · have q1 := fo_sh (f := muI k (M b).2.1 (M a) (M b) mk) (fun _ _ _ h => muI_sh h) _ _ _ _ g1
      refine g_iload X d_D_multiply_250 rfl ?_
      refine g_if_eq X 268 d_D_multiply_252 (by decide) (fun hc => ?_) (fun hc => ?_)
      · have ha0 : av = false := b2_0.mp hc
        have k1 : S1.1 ≤ 8 := by rw [q1.1]; exact (hM a (by omega)).1
        have k2 : S1.2.1 ≤ 8 := by rw [q1.2]; exact (hM b (by omega)).2
        refine g_aload X d_D_multiply_268 rfl ?_
        refine g_iload X d_D_multiply_270 rfl ?_
        have hZ := c_D_dz htr hinj (δ := δ) (M := (va_up M 6 S1)) hk (by rw [va_up_s]; exact k1) (by rw [va_up_s]; exact k2)
        rw [va_up_s, bx_uu] at hZ
        refine g_SN1 X s_D_97 (hZ) d_D_multiply_272 rfl ⟨Nat.le_of_ble_eq_true rfl, Nat.le_of_ble_eq_true rfl, Nat.le_of_ble_eq_true rfl, Nat.le_of_ble_eq_true rfl⟩ ?_
        refine g_aload_n X 0 d_D_multiply_275 rfl rfl ?_
        refine g_iload_n X 1 d_D_multiply_276 rfl rfl ?_
        have hK := c_D_keep htr hinj (δ := δ) (M := va_up M 6 (dz k S1)) hto
        rw [va_up_s] at hK
        refine g_VN1 X v_D_101 (dl_0) rfl (hK) d_D_multiply_277 rfl ⟨Nat.le_of_ble_eq_true rfl, Nat.le_of_ble_eq_true rfl, Nat.le_of_ble_eq_true rfl, Nat.le_of_ble_eq_true rfl⟩ ?_
        exact g_iret X KOk.n d_D_multiply_280 (Or.inl ⟨dz k S1, by rw [g1]; simp [ha0], rfl, rfl⟩)
      · have ha1 : av = true := b2_t hc
        refine g_aload X d_D_multiply_255 rfl ?_
        refine g_aload_n X 0 d_D_multiply_257 rfl rfl ?_
        refine r_regs X d_D_multiply_258 ?_
        refine g_iload_n X 1 d_D_multiply_261 rfl rfl ?_
        refine r_aald X rfl (by omega) d_D_multiply_262 ?_
        refine g_iload X d_D_multiply_263 rfl ?_
        refine g_SPO X s_D_93 (c_D_gA htr hinj hto hk (by rw [va_up6 hto]; exact (hM to (by omega)).1) (by rw [va_up6 hto]; exact (hM to (by omega)).2)) d_D_multiply_265 rfl ⟨Nat.le_of_ble_eq_true rfl, Nat.le_of_ble_eq_true rfl, Nat.le_of_ble_eq_true rfl, Nat.le_of_ble_eq_true rfl⟩ (fun S2 g2 => ?_) (fun g2 S' => ?_)
        · rw [va_up_s, va_up6 hto] at g2
          have q2 := gA_sh g2
          have k1 : S2.1 ≤ 8 := by rw [q2.1, q1.1]; exact (hM a (by omega)).1
          have k2 : S2.2.1 ≤ 8 := by rw [q2.2, q1.2]; exact (hM b (by omega)).2
          refine g_aload X d_D_multiply_268 rfl ?_
          refine g_iload X d_D_multiply_270 rfl ?_
          have hZ := c_D_dz htr hinj (δ := δ) (M := (va_up M 6 S2)) hk (by rw [va_up_s]; exact k1) (by rw [va_up_s]; exact k2)
          rw [va_up_s, bx_uu] at hZ
          refine g_SN1 X s_D_97 (hZ) d_D_multiply_272 rfl ⟨Nat.le_of_ble_eq_true rfl, Nat.le_of_ble_eq_true rfl, Nat.le_of_ble_eq_true rfl, Nat.le_of_ble_eq_true rfl⟩ ?_
          refine g_aload_n X 0 d_D_multiply_275 rfl rfl ?_
          refine g_iload_n X 1 d_D_multiply_276 rfl rfl ?_
          have hK := c_D_keep htr hinj (δ := δ) (M := va_up M 6 (dz k S2)) hto
          rw [va_up_s] at hK
          refine g_VN1 X v_D_101 (dl_0) rfl (hK) d_D_multiply_277 rfl ⟨Nat.le_of_ble_eq_true rfl, Nat.le_of_ble_eq_true rfl, Nat.le_of_ble_eq_true rfl, Nat.le_of_ble_eq_true rfl⟩ ?_
          exact g_iret X KOk.n d_D_multiply_280 (Or.inl ⟨dz k S2, by rw [g1]; simp [ha1, g2], rfl, rfl⟩)
        · rw [va_up_s, va_up6 hto] at g2
          exact Or.inr ⟨by rw [g1]; simp [ha1, g2], rfl, S', rfl⟩
    · exact Or.inr ⟨by rw [g1]; rfl, rfl, S', rfl⟩
set_option maxHeartbeats 4000000 in
set_option maxRecDepth 100000 in
theorem c_D_multiply {l : Launch} (htr : l.stackTraces = false) {δ : EX} {ad : Nat → Nat} {M : DS} (hinj : Inj ad) {to a b k hw : Nat} {mv : Int32} {mk : Nat → Bool} (hto : to < 6) (ha : a < 6) (hb : b < 6) (hk : k < 4) (hM : ∀ k, k < 7 → (M k).1 ≤ 8 ∧ (M k).2.1 ≤ 8) (hhw : hw ≤ 3) (hf1 : (M a).2.1 = (M b).1) (hf2 : mv = -1 ∨ ∃ m, m < 6 ∧ mv = nI m ∧ ((M m).1 = (M a).1 ∧ (M m).2.1 = (M b).2.1)) (hf3 : ¬ 2 ≤ hw ∨ ((M to).1 = (M a).1 ∧ (M to).2.1 = (M b).2.1)) (hmk : MkOk M mv (decide (hw % 2 = 1)) mk) : CT l y_D_multiply cw_D_multiply (RM 5) δ (Ar ad) (dl δ ad M) [.ref (ad 0), .int (nI to), .int (nI a), .int (nI b), .int (nI k), .int mv, .int (nI hw)] (PS δ ad M to (((fo (muI k (M b).2.1 (M a) (M b) mk) 0 (M a).1 (mClear (M 6) (M a).1 (M b).2.1)).bind (fun S => if decide (2 ≤ hw) = true then gA k (M to) S else some S)).map (dz k))) := by
  refine CT.ofN (lv := [(0, .ref (ad 0)), (1, .int (nI to)), (2, .int (nI a)), (3, .int (nI b)), (4, .int (nI k)), (5, .int mv), (6, .int (nI hw))]) (Or.inl ⟨rfl, rfl⟩) (by decide) htr rfl (Nat.le_of_ble_eq_true rfl) (fun κ hl X => ?_)
  subst hl
  have hmv : mv = -1 ∨ ∃ r, r < 6 ∧ mv = nI r := by
    rcases hf2 with q | ⟨m, q1, q2, -⟩
    · exact Or.inl q
    · exact Or.inr ⟨m, q1, q2⟩
  refine g_iload_n X 1 d_D_multiply_0 rfl rfl ?_
  refine g_iload_n X 2 d_D_multiply_1 rfl rfl ?_
  refine g_iload_n X 3 d_D_multiply_2 rfl rfl ?_
  refine g_iload X d_D_multiply_3 rfl ?_
  refine g_SP X KOk.n s_D_69 (c_D_reqOps htr hto ha hb hk) d_D_multiply_5 rfl ⟨Nat.le_of_ble_eq_true rfl, Nat.le_of_ble_eq_true rfl, Nat.le_of_ble_eq_true rfl, Nat.le_of_ble_eq_true rfl⟩ ?_
  refine g_iload X d_D_multiply_8 rfl ?_
  refine g_SP X KOk.n s_D_73 (c_D_reqMask htr hmv) d_D_multiply_10 rfl ⟨Nat.le_of_ble_eq_true rfl, Nat.le_of_ble_eq_true rfl, Nat.le_of_ble_eq_true rfl, Nat.le_of_ble_eq_true rfl⟩ ?_
  refine g_iload X d_D_multiply_13 rfl ?_
  refine g_iconst X (v := nI 3) d_D_multiply_15 (by decide) ?_
  refine g_SP X KOk.n s_D_76 (c_D_reqHow htr hhw (by decide)) d_D_multiply_16 rfl ⟨Nat.le_of_ble_eq_true rfl, Nat.le_of_ble_eq_true rfl, Nat.le_of_ble_eq_true rfl, Nat.le_of_ble_eq_true rfl⟩ ?_
  refine g_aload_n X 0 d_D_multiply_19 rfl rfl ?_
  refine r_regs X d_D_multiply_20 ?_
  refine g_iload_n X 2 d_D_multiply_23 rfl rfl ?_
  refine r_aald X rfl (by omega) d_D_multiply_24 ?_
  refine g_astore X d_D_multiply_25 (by decide) ?_
  refine g_aload_n X 0 d_D_multiply_27 rfl rfl ?_
  refine r_regs X d_D_multiply_28 ?_
  refine g_iload_n X 3 d_D_multiply_31 rfl rfl ?_
  refine r_aald X rfl (by omega) d_D_multiply_32 ?_
  refine g_astore X d_D_multiply_33 (by decide) ?_
  refine g_aload X d_D_multiply_35 rfl ?_
  refine r_cols X kf_D_62 d_D_multiply_37 (by omega) ?_
  refine g_aload X d_D_multiply_40 rfl ?_
  refine r_rows X kf_D_58 d_D_multiply_42 (by omega) ?_
  refine g_icmp_ne X 52 d_D_multiply_45 (by decide) (fun hc => ?_) (fun hc => ?_)
  · exact absurd (by rw [hf1]) hc
  clear hc
  refine g_iconst X (v := b2 true) d_D_multiply_48 (by decide) ?_
  refine g_goto X 53 d_D_multiply_49 (by decide) ?_
  refine g_SP X KOk.n s_D_79 (c_D_reqFit htr (b := true) rfl) d_D_multiply_53 rfl ⟨Nat.le_of_ble_eq_true rfl, Nat.le_of_ble_eq_true rfl, Nat.le_of_ble_eq_true rfl, Nat.le_of_ble_eq_true rfl⟩ ?_
  refine (fun (c93 : G κ 14 δ (Kn κ (Ar ad)) (Qe κ δ (Ar ad) (PS δ ad M to (((fo (muI k (M b).2.1 (M a) (M b) mk) 0 (M a).1 (mClear (M 6) (M a).1 (M b).2.1)).bind (fun S => if decide (2 ≤ hw) = true then gA k (M to) S else some S)).map (dz k)))) 0 0 (dl δ ad M) [(0, .ref (ad 0)), (1, .int (nI to)), (4, .int (nI k)), (5, .int mv), (6, .int (nI hw)), (7, .ref (mq ad a)), (8, .ref (mq ad b))] [] 93) => ?_) ?_
  · refine g_iload X d_D_multiply_56 rfl ?_
    refine g_iconst X (v := (-1)) d_D_multiply_58 (by decide) ?_
    refine g_icmp_eq X 85 d_D_multiply_59 (by decide) (fun hd => ?_) (fun hd => ?_)
    · refine g_iconst X (v := b2 true) d_D_multiply_85 (by decide) ?_
      refine g_goto X 90 d_D_multiply_86 (by decide) ?_
      refine g_SP X KOk.n s_D_79 (c_D_reqFit htr (b := true) rfl) d_D_multiply_90 rfl ⟨Nat.le_of_ble_eq_true rfl, Nat.le_of_ble_eq_true rfl, Nat.le_of_ble_eq_true rfl, Nat.le_of_ble_eq_true rfl⟩ ?_
      exact g_sb c93 ⟨rfl, rfl, rfl, rfl, rfl, rfl, rfl, trivial⟩
    · rcases hf2 with q | ⟨m, q1, q2, q3⟩
      · exact absurd q hd
      subst q2
      refine g_aload_n X 0 d_D_multiply_62 rfl rfl ?_
      refine r_regs X d_D_multiply_63 ?_
      refine g_iload X d_D_multiply_66 rfl ?_
      refine r_aald X rfl (by omega) d_D_multiply_68 ?_
      refine g_aload X d_D_multiply_69 rfl ?_
      refine r_rows X kf_D_58 d_D_multiply_71 (by omega) ?_
      refine g_aload X d_D_multiply_74 rfl ?_
      refine r_cols X kf_D_62 d_D_multiply_76 (by omega) ?_
      refine g_VP X KOk.n v_D_82 (dl_m (by omega)) rfl (c_M_isShaped htr (by omega) (hM m (by omega)).1 (hM m (by omega)).2 (hM a (by omega)).1 (hM b (by omega)).2) d_D_multiply_79 rfl ⟨Nat.le_of_ble_eq_true rfl, Nat.le_of_ble_eq_true rfl, Nat.le_of_ble_eq_true rfl, Nat.le_of_ble_eq_true rfl⟩ ?_
      refine g_if_eq X 89 d_D_multiply_82 (by decide) (fun he => ?_) (fun he => ?_)
      · exact absurd (b2_0.mp he) (by rw [decide_eq_true q3]; decide)
      · refine g_iconst X (v := b2 true) d_D_multiply_85 (by decide) ?_
        refine g_goto X 90 d_D_multiply_86 (by decide) ?_
        refine g_SP X KOk.n s_D_79 (c_D_reqFit htr (b := true) rfl) d_D_multiply_90 rfl ⟨Nat.le_of_ble_eq_true rfl, Nat.le_of_ble_eq_true rfl, Nat.le_of_ble_eq_true rfl, Nat.le_of_ble_eq_true rfl⟩ ?_
        exact g_sb c93 ⟨rfl, rfl, rfl, rfl, rfl, rfl, rfl, trivial⟩
  refine g_iload X d_D_multiply_93 rfl ?_
  refine g_iconst X (v := 2) d_D_multiply_95 (by decide) ?_
  refine g_iand X d_D_multiply_96 ?_
  refine g_if_eq X 104 d_D_multiply_97 (by decide) (fun hc => ?_) (fun hc => ?_)
  · have e := (and2 hhw).mp hc
    have hT := l_D_mu_t X htr hinj (av := decide (2 ≤ hw)) hto ha hb hk hM hhw hmk
    rw [decide_eq_false e] at hT ⊢
    refine g_iconst X (v := b2 false) d_D_multiply_104 (by decide) ?_
    refine g_istore X d_D_multiply_105 (by decide) ?_
    refine g_iload X d_D_multiply_107 rfl ?_
    refine g_if_eq X 134 d_D_multiply_109 (by decide) (fun hd => ?_) (fun hd => ?_)
    · refine g_iconst X (v := b2 true) d_D_multiply_134 (by decide) ?_
      refine g_goto X 139 d_D_multiply_135 (by decide) ?_
      refine g_SP X KOk.n s_D_79 (c_D_reqFit htr (b := true) rfl) d_D_multiply_139 rfl ⟨Nat.le_of_ble_eq_true rfl, Nat.le_of_ble_eq_true rfl, Nat.le_of_ble_eq_true rfl, Nat.le_of_ble_eq_true rfl⟩ ?_
      exact g_sb hT ⟨rfl, rfl, rfl, rfl, rfl, rfl, rfl, rfl, trivial⟩
    · exact absurd (by decide) hd
  · have e : 2 ≤ hw := Classical.not_not.mp (fun q => hc ((and2 hhw).mpr q))
    have hT := l_D_mu_t X htr hinj (av := decide (2 ≤ hw)) hto ha hb hk hM hhw hmk
    rw [decide_eq_true e] at hT ⊢
    have g : (M to).1 = (M a).1 ∧ (M to).2.1 = (M b).2.1 := hf3.resolve_left (fun q => q e)
    refine g_iconst X (v := b2 true) d_D_multiply_100 (by decide) ?_
    refine g_goto X 105 d_D_multiply_101 (by decide) ?_
    refine g_istore X d_D_multiply_105 (by decide) ?_
    refine g_iload X d_D_multiply_107 rfl ?_
    refine g_if_eq X 134 d_D_multiply_109 (by decide) (fun hd => ?_) (fun hd => ?_)
    · exact absurd hd (by decide)
    · refine g_aload_n X 0 d_D_multiply_112 rfl rfl ?_
      refine r_regs X d_D_multiply_113 ?_
      refine g_iload_n X 1 d_D_multiply_116 rfl rfl ?_
      refine r_aald X rfl (by omega) d_D_multiply_117 ?_
      refine g_aload X d_D_multiply_118 rfl ?_
      refine r_rows X kf_D_58 d_D_multiply_120 (by omega) ?_
      refine g_aload X d_D_multiply_123 rfl ?_
      refine r_cols X kf_D_62 d_D_multiply_125 (by omega) ?_
      refine g_VP X KOk.n v_D_82 (dl_m (by omega)) rfl (c_M_isShaped htr (by omega) (hM to (by omega)).1 (hM to (by omega)).2 (hM a (by omega)).1 (hM b (by omega)).2) d_D_multiply_128 rfl ⟨Nat.le_of_ble_eq_true rfl, Nat.le_of_ble_eq_true rfl, Nat.le_of_ble_eq_true rfl, Nat.le_of_ble_eq_true rfl⟩ ?_
      refine g_if_eq X 138 d_D_multiply_131 (by decide) (fun he => ?_) (fun he => ?_)
      · exact absurd (b2_0.mp he) (by rw [decide_eq_true g]; decide)
      · refine g_iconst X (v := b2 true) d_D_multiply_134 (by decide) ?_
        refine g_goto X 139 d_D_multiply_135 (by decide) ?_
        refine g_SP X KOk.n s_D_79 (c_D_reqFit htr (b := true) rfl) d_D_multiply_139 rfl ⟨Nat.le_of_ble_eq_true rfl, Nat.le_of_ble_eq_true rfl, Nat.le_of_ble_eq_true rfl, Nat.le_of_ble_eq_true rfl⟩ ?_
        exact g_sb hT ⟨rfl, rfl, rfl, rfl, rfl, rfl, rfl, rfl, trivial⟩
set_option maxHeartbeats 4000000 in
set_option maxRecDepth 100000 in
theorem c_D_multiply_x1 {l : Launch} (htr : l.stackTraces = false) {δ : EX} {ad : Nat → Nat} {M : DS} {x1 x2 x3 x4 x5 x6 : Int32} (h : bR x1 ∨ bR x2 ∨ bR x3 ∨ bH 3 x4 ∨ (¬ x5 = -1 ∧ bR x5) ∨ bH 3 x6) : CTP l y_D_multiply cw_D_multiply (RM 5) δ (dl δ ad M) [.ref (ad 0), .int x1, .int x2, .int x3, .int x4, .int x5, .int x6] (.inl 1) := by
  refine CT.ofP (lv := [(0, .ref (ad 0)), (1, .int x1), (2, .int x2), (3, .int x3), (4, .int x4), (5, .int x5), (6, .int x6)]) (Or.inl ⟨rfl, rfl⟩) (by decide) htr rfl (Nat.le_of_ble_eq_true rfl) (fun κ hl X => ?_)
  subst hl
  refine g_iload_n X 1 d_D_multiply_0 rfl rfl ?_
  refine g_iload_n X 2 d_D_multiply_1 rfl rfl ?_
  refine g_iload_n X 3 d_D_multiply_2 rfl rfl ?_
  refine g_iload X d_D_multiply_3 rfl ?_
  by_cases hq : bR x1 ∨ bR x2 ∨ bR x3 ∨ bH 3 x4
  · exact g_ST X KOk.p s_D_69 (c_D_reqOps_x htr hq) d_D_multiply_5 rfl ⟨Nat.le_of_ble_eq_true rfl, Nat.le_of_ble_eq_true rfl, Nat.le_of_ble_eq_true rfl, Nat.le_of_ble_eq_true rfl⟩ ⟨rfl, rfl⟩
  rcases bR_or x1 with q | ⟨r1, h1, rfl⟩
  · exact absurd (Or.inl q) hq
  rcases bR_or x2 with q | ⟨r2, h2, rfl⟩
  · exact absurd (Or.inr (Or.inl q)) hq
  rcases bR_or x3 with q | ⟨r3, h3, rfl⟩
  · exact absurd (Or.inr (Or.inr (Or.inl q))) hq
  rcases bH_or (n := 3) (by decide) x4 with q | ⟨k, hk, rfl⟩
  · exact absurd (Or.inr (Or.inr (Or.inr q))) hq
  refine g_SP X KOk.p s_D_69 (c_D_reqOps htr h1 h2 h3 (by omega)) d_D_multiply_5 rfl ⟨Nat.le_of_ble_eq_true rfl, Nat.le_of_ble_eq_true rfl, Nat.le_of_ble_eq_true rfl, Nat.le_of_ble_eq_true rfl⟩ ?_
  refine g_iload X d_D_multiply_8 rfl ?_
  by_cases hm : ¬ x5 = -1 ∧ bR x5
  · exact g_ST X KOk.p s_D_73 (c_D_reqMask_x htr hm.1 hm.2) d_D_multiply_10 rfl ⟨Nat.le_of_ble_eq_true rfl, Nat.le_of_ble_eq_true rfl, Nat.le_of_ble_eq_true rfl, Nat.le_of_ble_eq_true rfl⟩ ⟨rfl, rfl⟩
  have hmv : x5 = -1 ∨ ∃ r, r < 6 ∧ x5 = nI r := by
    by_cases e : x5 = -1
    · exact Or.inl e
    · exact Or.inr ((bR_or x5).resolve_left (fun q => hm ⟨e, q⟩))
  refine g_SP X KOk.p s_D_73 (c_D_reqMask htr hmv) d_D_multiply_10 rfl ⟨Nat.le_of_ble_eq_true rfl, Nat.le_of_ble_eq_true rfl, Nat.le_of_ble_eq_true rfl, Nat.le_of_ble_eq_true rfl⟩ ?_
  refine g_iload X d_D_multiply_13 rfl ?_
  refine g_iconst X (v := nI 3) d_D_multiply_15 (by decide) ?_
  rcases h with h | h | h | h | h | h
  · exact absurd (Or.inl h) hq
  · exact absurd (Or.inr (Or.inl h)) hq
  · exact absurd (Or.inr (Or.inr (Or.inl h))) hq
  · exact absurd (Or.inr (Or.inr (Or.inr h))) hq
  · exact absurd h hm
  · exact g_ST X KOk.p s_D_76 (c_D_reqHow_x htr h) d_D_multiply_16 rfl ⟨Nat.le_of_ble_eq_true rfl, Nat.le_of_ble_eq_true rfl, Nat.le_of_ble_eq_true rfl, Nat.le_of_ble_eq_true rfl⟩ ⟨rfl, rfl⟩
set_option maxHeartbeats 4000000 in
set_option maxRecDepth 100000 in
theorem c_D_multiply_x2 {l : Launch} (htr : l.stackTraces = false) {δ : EX} {ad : Nat → Nat} {M : DS} {to a b k hw : Nat} {mv : Int32} (hto : to < 6) (ha : a < 6) (hb : b < 6) (hk : k < 4) (hM : ∀ k, k < 7 → (M k).1 ≤ 8 ∧ (M k).2.1 ≤ 8) (hhw : hw ≤ 3) (hmv : mv = -1 ∨ ∃ r, r < 6 ∧ mv = nI r) (hf1 : ¬ (M a).2.1 = (M b).1) : CTP l y_D_multiply cw_D_multiply (RM 5) δ (dl δ ad M) [.ref (ad 0), .int (nI to), .int (nI a), .int (nI b), .int (nI k), .int mv, .int (nI hw)] (.inl 2) := by
  refine CT.ofP (lv := [(0, .ref (ad 0)), (1, .int (nI to)), (2, .int (nI a)), (3, .int (nI b)), (4, .int (nI k)), (5, .int mv), (6, .int (nI hw))]) (Or.inl ⟨rfl, rfl⟩) (by decide) htr rfl (Nat.le_of_ble_eq_true rfl) (fun κ hl X => ?_)
  subst hl
  refine g_iload_n X 1 d_D_multiply_0 rfl rfl ?_
  refine g_iload_n X 2 d_D_multiply_1 rfl rfl ?_
  refine g_iload_n X 3 d_D_multiply_2 rfl rfl ?_
  refine g_iload X d_D_multiply_3 rfl ?_
  refine g_SP X KOk.p s_D_69 (c_D_reqOps htr hto ha hb hk) d_D_multiply_5 rfl ⟨Nat.le_of_ble_eq_true rfl, Nat.le_of_ble_eq_true rfl, Nat.le_of_ble_eq_true rfl, Nat.le_of_ble_eq_true rfl⟩ ?_
  refine g_iload X d_D_multiply_8 rfl ?_
  refine g_SP X KOk.p s_D_73 (c_D_reqMask htr hmv) d_D_multiply_10 rfl ⟨Nat.le_of_ble_eq_true rfl, Nat.le_of_ble_eq_true rfl, Nat.le_of_ble_eq_true rfl, Nat.le_of_ble_eq_true rfl⟩ ?_
  refine g_iload X d_D_multiply_13 rfl ?_
  refine g_iconst X (v := nI 3) d_D_multiply_15 (by decide) ?_
  refine g_SP X KOk.p s_D_76 (c_D_reqHow htr hhw (by decide)) d_D_multiply_16 rfl ⟨Nat.le_of_ble_eq_true rfl, Nat.le_of_ble_eq_true rfl, Nat.le_of_ble_eq_true rfl, Nat.le_of_ble_eq_true rfl⟩ ?_
  refine g_aload_n X 0 d_D_multiply_19 rfl rfl ?_
  refine r_regs X d_D_multiply_20 ?_
  refine g_iload_n X 2 d_D_multiply_23 rfl rfl ?_
  refine r_aald X rfl (by omega) d_D_multiply_24 ?_
  refine g_astore X d_D_multiply_25 (by decide) ?_
  refine g_aload_n X 0 d_D_multiply_27 rfl rfl ?_
  refine r_regs X d_D_multiply_28 ?_
  refine g_iload_n X 3 d_D_multiply_31 rfl rfl ?_
  refine r_aald X rfl (by omega) d_D_multiply_32 ?_
  refine g_astore X d_D_multiply_33 (by decide) ?_
  refine g_aload X d_D_multiply_35 rfl ?_
  refine r_cols X kf_D_62 d_D_multiply_37 (by omega) ?_
  refine g_aload X d_D_multiply_40 rfl ?_
  refine r_rows X kf_D_58 d_D_multiply_42 (by omega) ?_
  refine g_icmp_ne X 52 d_D_multiply_45 (by decide) (fun hc => ?_) (fun hc => ?_)
  · refine g_iconst X (v := b2 false) d_D_multiply_52 (by decide) ?_
    exact g_ST X KOk.p s_D_79 (c_D_reqFit_x htr (b := false) rfl) d_D_multiply_53 rfl ⟨Nat.le_of_ble_eq_true rfl, Nat.le_of_ble_eq_true rfl, Nat.le_of_ble_eq_true rfl, Nat.le_of_ble_eq_true rfl⟩ ⟨rfl, rfl⟩
  · exact absurd ((nI_eq (by have := hM a (by omega); omega) (by have := hM b (by omega); omega)).mp hc) hf1
set_option maxHeartbeats 4000000 in
set_option maxRecDepth 100000 in
theorem c_D_multiply_x3 {l : Launch} (htr : l.stackTraces = false) {δ : EX} {ad : Nat → Nat} {M : DS} {to a b k hw m : Nat} (hto : to < 6) (ha : a < 6) (hb : b < 6) (hk : k < 4) (hM : ∀ k, k < 7 → (M k).1 ≤ 8 ∧ (M k).2.1 ≤ 8) (hhw : hw ≤ 3) (hf1 : (M a).2.1 = (M b).1) (hm : m < 6) (hf2 : ¬ ((M m).1 = (M a).1 ∧ (M m).2.1 = (M b).2.1)) : CTP l y_D_multiply cw_D_multiply (RM 5) δ (dl δ ad M) [.ref (ad 0), .int (nI to), .int (nI a), .int (nI b), .int (nI k), .int (nI m), .int (nI hw)] (.inl 2) := by
  refine CT.ofP (lv := [(0, .ref (ad 0)), (1, .int (nI to)), (2, .int (nI a)), (3, .int (nI b)), (4, .int (nI k)), (5, .int (nI m)), (6, .int (nI hw))]) (Or.inl ⟨rfl, rfl⟩) (by decide) htr rfl (Nat.le_of_ble_eq_true rfl) (fun κ hl X => ?_)
  subst hl
  have hmv : nI m = -1 ∨ ∃ r, r < 6 ∧ nI m = nI r := Or.inr ⟨m, hm, rfl⟩
  refine g_iload_n X 1 d_D_multiply_0 rfl rfl ?_
  refine g_iload_n X 2 d_D_multiply_1 rfl rfl ?_
  refine g_iload_n X 3 d_D_multiply_2 rfl rfl ?_
  refine g_iload X d_D_multiply_3 rfl ?_
  refine g_SP X KOk.p s_D_69 (c_D_reqOps htr hto ha hb hk) d_D_multiply_5 rfl ⟨Nat.le_of_ble_eq_true rfl, Nat.le_of_ble_eq_true rfl, Nat.le_of_ble_eq_true rfl, Nat.le_of_ble_eq_true rfl⟩ ?_
  refine g_iload X d_D_multiply_8 rfl ?_
  refine g_SP X KOk.p s_D_73 (c_D_reqMask htr hmv) d_D_multiply_10 rfl ⟨Nat.le_of_ble_eq_true rfl, Nat.le_of_ble_eq_true rfl, Nat.le_of_ble_eq_true rfl, Nat.le_of_ble_eq_true rfl⟩ ?_
  refine g_iload X d_D_multiply_13 rfl ?_
  refine g_iconst X (v := nI 3) d_D_multiply_15 (by decide) ?_
  refine g_SP X KOk.p s_D_76 (c_D_reqHow htr hhw (by decide)) d_D_multiply_16 rfl ⟨Nat.le_of_ble_eq_true rfl, Nat.le_of_ble_eq_true rfl, Nat.le_of_ble_eq_true rfl, Nat.le_of_ble_eq_true rfl⟩ ?_
  refine g_aload_n X 0 d_D_multiply_19 rfl rfl ?_
  refine r_regs X d_D_multiply_20 ?_
  refine g_iload_n X 2 d_D_multiply_23 rfl rfl ?_
  refine r_aald X rfl (by omega) d_D_multiply_24 ?_
  refine g_astore X d_D_multiply_25 (by decide) ?_
  refine g_aload_n X 0 d_D_multiply_27 rfl rfl ?_
  refine r_regs X d_D_multiply_28 ?_
  refine g_iload_n X 3 d_D_multiply_31 rfl rfl ?_
  refine r_aald X rfl (by omega) d_D_multiply_32 ?_
  refine g_astore X d_D_multiply_33 (by decide) ?_
  refine g_aload X d_D_multiply_35 rfl ?_
  refine r_cols X kf_D_62 d_D_multiply_37 (by omega) ?_
  refine g_aload X d_D_multiply_40 rfl ?_
  refine r_rows X kf_D_58 d_D_multiply_42 (by omega) ?_
  refine g_icmp_ne X 52 d_D_multiply_45 (by decide) (fun hc => ?_) (fun hc => ?_)
  · exact absurd (by rw [hf1]) hc
  clear hc
  refine g_iconst X (v := b2 true) d_D_multiply_48 (by decide) ?_
  refine g_goto X 53 d_D_multiply_49 (by decide) ?_
  refine g_SP X KOk.p s_D_79 (c_D_reqFit htr (b := true) rfl) d_D_multiply_53 rfl ⟨Nat.le_of_ble_eq_true rfl, Nat.le_of_ble_eq_true rfl, Nat.le_of_ble_eq_true rfl, Nat.le_of_ble_eq_true rfl⟩ ?_
  refine g_iload X d_D_multiply_56 rfl ?_
  refine g_iconst X (v := (-1)) d_D_multiply_58 (by decide) ?_
  refine g_icmp_eq X 85 d_D_multiply_59 (by decide) (fun hc => ?_) (fun hc => ?_)
  · exact absurd hc (nI_m1 hm)
  refine g_aload_n X 0 d_D_multiply_62 rfl rfl ?_
  refine r_regs X d_D_multiply_63 ?_
  refine g_iload X d_D_multiply_66 rfl ?_
  refine r_aald X rfl (by omega) d_D_multiply_68 ?_
  refine g_aload X d_D_multiply_69 rfl ?_
  refine r_rows X kf_D_58 d_D_multiply_71 (by omega) ?_
  refine g_aload X d_D_multiply_74 rfl ?_
  refine r_cols X kf_D_62 d_D_multiply_76 (by omega) ?_
  refine g_VP X KOk.p v_D_82 (dl_m (by omega)) rfl (c_M_isShaped htr (by omega) (hM m (by omega)).1 (hM m (by omega)).2 (hM a (by omega)).1 (hM b (by omega)).2) d_D_multiply_79 rfl ⟨Nat.le_of_ble_eq_true rfl, Nat.le_of_ble_eq_true rfl, Nat.le_of_ble_eq_true rfl, Nat.le_of_ble_eq_true rfl⟩ ?_
  refine g_if_eq X 89 d_D_multiply_82 (by decide) (fun he => ?_) (fun he => ?_)
  · refine g_iconst X (v := b2 false) d_D_multiply_89 (by decide) ?_
    exact g_ST X KOk.p s_D_79 (c_D_reqFit_x htr (b := false) rfl) d_D_multiply_90 rfl ⟨Nat.le_of_ble_eq_true rfl, Nat.le_of_ble_eq_true rfl, Nat.le_of_ble_eq_true rfl, Nat.le_of_ble_eq_true rfl⟩ ⟨rfl, rfl⟩
  · exact absurd (b2_t he) (by rw [decide_eq_false hf2]; decide)
set_option maxHeartbeats 4000000 in
set_option maxRecDepth 100000 in
theorem c_D_multiply_x4 {l : Launch} (htr : l.stackTraces = false) {δ : EX} {ad : Nat → Nat} {M : DS} {to a b k hw : Nat} {mv : Int32} (hto : to < 6) (ha : a < 6) (hb : b < 6) (hk : k < 4) (hM : ∀ k, k < 7 → (M k).1 ≤ 8 ∧ (M k).2.1 ≤ 8) (hhw : hw ≤ 3) (hf1 : (M a).2.1 = (M b).1) (hf2 : mv = -1 ∨ ∃ m, m < 6 ∧ mv = nI m ∧ ((M m).1 = (M a).1 ∧ (M m).2.1 = (M b).2.1)) (h2 : 2 ≤ hw) (hf3 : ¬ ((M to).1 = (M a).1 ∧ (M to).2.1 = (M b).2.1)) : CTP l y_D_multiply cw_D_multiply (RM 5) δ (dl δ ad M) [.ref (ad 0), .int (nI to), .int (nI a), .int (nI b), .int (nI k), .int mv, .int (nI hw)] (.inl 2) := by
  refine CT.ofP (lv := [(0, .ref (ad 0)), (1, .int (nI to)), (2, .int (nI a)), (3, .int (nI b)), (4, .int (nI k)), (5, .int mv), (6, .int (nI hw))]) (Or.inl ⟨rfl, rfl⟩) (by decide) htr rfl (Nat.le_of_ble_eq_true rfl) (fun κ hl X => ?_)
  subst hl
  have hmv : mv = -1 ∨ ∃ r, r < 6 ∧ mv = nI r := by
    rcases hf2 with q | ⟨m, q1, q2, -⟩
    · exact Or.inl q
    · exact Or.inr ⟨m, q1, q2⟩
  refine g_iload_n X 1 d_D_multiply_0 rfl rfl ?_
  refine g_iload_n X 2 d_D_multiply_1 rfl rfl ?_
  refine g_iload_n X 3 d_D_multiply_2 rfl rfl ?_
  refine g_iload X d_D_multiply_3 rfl ?_
  refine g_SP X KOk.p s_D_69 (c_D_reqOps htr hto ha hb hk) d_D_multiply_5 rfl ⟨Nat.le_of_ble_eq_true rfl, Nat.le_of_ble_eq_true rfl, Nat.le_of_ble_eq_true rfl, Nat.le_of_ble_eq_true rfl⟩ ?_
  refine g_iload X d_D_multiply_8 rfl ?_
  refine g_SP X KOk.p s_D_73 (c_D_reqMask htr hmv) d_D_multiply_10 rfl ⟨Nat.le_of_ble_eq_true rfl, Nat.le_of_ble_eq_true rfl, Nat.le_of_ble_eq_true rfl, Nat.le_of_ble_eq_true rfl⟩ ?_
  refine g_iload X d_D_multiply_13 rfl ?_
  refine g_iconst X (v := nI 3) d_D_multiply_15 (by decide) ?_
  refine g_SP X KOk.p s_D_76 (c_D_reqHow htr hhw (by decide)) d_D_multiply_16 rfl ⟨Nat.le_of_ble_eq_true rfl, Nat.le_of_ble_eq_true rfl, Nat.le_of_ble_eq_true rfl, Nat.le_of_ble_eq_true rfl⟩ ?_
  refine g_aload_n X 0 d_D_multiply_19 rfl rfl ?_
  refine r_regs X d_D_multiply_20 ?_
  refine g_iload_n X 2 d_D_multiply_23 rfl rfl ?_
  refine r_aald X rfl (by omega) d_D_multiply_24 ?_
  refine g_astore X d_D_multiply_25 (by decide) ?_
  refine g_aload_n X 0 d_D_multiply_27 rfl rfl ?_
  refine r_regs X d_D_multiply_28 ?_
  refine g_iload_n X 3 d_D_multiply_31 rfl rfl ?_
  refine r_aald X rfl (by omega) d_D_multiply_32 ?_
  refine g_astore X d_D_multiply_33 (by decide) ?_
  refine g_aload X d_D_multiply_35 rfl ?_
  refine r_cols X kf_D_62 d_D_multiply_37 (by omega) ?_
  refine g_aload X d_D_multiply_40 rfl ?_
  refine r_rows X kf_D_58 d_D_multiply_42 (by omega) ?_
  refine g_icmp_ne X 52 d_D_multiply_45 (by decide) (fun hc => ?_) (fun hc => ?_)
  · exact absurd (by rw [hf1]) hc
  clear hc
  refine g_iconst X (v := b2 true) d_D_multiply_48 (by decide) ?_
  refine g_goto X 53 d_D_multiply_49 (by decide) ?_
  refine g_SP X KOk.p s_D_79 (c_D_reqFit htr (b := true) rfl) d_D_multiply_53 rfl ⟨Nat.le_of_ble_eq_true rfl, Nat.le_of_ble_eq_true rfl, Nat.le_of_ble_eq_true rfl, Nat.le_of_ble_eq_true rfl⟩ ?_
  refine (fun (c93 : G κ 14 δ (Kp κ) (Qe κ δ NoA (fun r' w => r' = .inl 2 ∧ w = dl δ ad M)) 0 0 (dl δ ad M) [(0, .ref (ad 0)), (1, .int (nI to)), (4, .int (nI k)), (5, .int mv), (6, .int (nI hw)), (7, .ref (mq ad a)), (8, .ref (mq ad b))] [] 93) => ?_) ?_
  · refine g_iload X d_D_multiply_56 rfl ?_
    refine g_iconst X (v := (-1)) d_D_multiply_58 (by decide) ?_
    refine g_icmp_eq X 85 d_D_multiply_59 (by decide) (fun hd => ?_) (fun hd => ?_)
    · refine g_iconst X (v := b2 true) d_D_multiply_85 (by decide) ?_
      refine g_goto X 90 d_D_multiply_86 (by decide) ?_
      refine g_SP X KOk.p s_D_79 (c_D_reqFit htr (b := true) rfl) d_D_multiply_90 rfl ⟨Nat.le_of_ble_eq_true rfl, Nat.le_of_ble_eq_true rfl, Nat.le_of_ble_eq_true rfl, Nat.le_of_ble_eq_true rfl⟩ ?_
      exact g_sb c93 ⟨rfl, rfl, rfl, rfl, rfl, rfl, rfl, trivial⟩
    · rcases hf2 with q | ⟨m, q1, q2, q3⟩
      · exact absurd q hd
      subst q2
      refine g_aload_n X 0 d_D_multiply_62 rfl rfl ?_
      refine r_regs X d_D_multiply_63 ?_
      refine g_iload X d_D_multiply_66 rfl ?_
      refine r_aald X rfl (by omega) d_D_multiply_68 ?_
      refine g_aload X d_D_multiply_69 rfl ?_
      refine r_rows X kf_D_58 d_D_multiply_71 (by omega) ?_
      refine g_aload X d_D_multiply_74 rfl ?_
      refine r_cols X kf_D_62 d_D_multiply_76 (by omega) ?_
      refine g_VP X KOk.p v_D_82 (dl_m (by omega)) rfl (c_M_isShaped htr (by omega) (hM m (by omega)).1 (hM m (by omega)).2 (hM a (by omega)).1 (hM b (by omega)).2) d_D_multiply_79 rfl ⟨Nat.le_of_ble_eq_true rfl, Nat.le_of_ble_eq_true rfl, Nat.le_of_ble_eq_true rfl, Nat.le_of_ble_eq_true rfl⟩ ?_
      refine g_if_eq X 89 d_D_multiply_82 (by decide) (fun he => ?_) (fun he => ?_)
      · exact absurd (b2_0.mp he) (by rw [decide_eq_true q3]; decide)
      · refine g_iconst X (v := b2 true) d_D_multiply_85 (by decide) ?_
        refine g_goto X 90 d_D_multiply_86 (by decide) ?_
        refine g_SP X KOk.p s_D_79 (c_D_reqFit htr (b := true) rfl) d_D_multiply_90 rfl ⟨Nat.le_of_ble_eq_true rfl, Nat.le_of_ble_eq_true rfl, Nat.le_of_ble_eq_true rfl, Nat.le_of_ble_eq_true rfl⟩ ?_
        exact g_sb c93 ⟨rfl, rfl, rfl, rfl, rfl, rfl, rfl, trivial⟩
  refine g_iload X d_D_multiply_93 rfl ?_
  refine g_iconst X (v := 2) d_D_multiply_95 (by decide) ?_
  refine g_iand X d_D_multiply_96 ?_
  refine g_if_eq X 104 d_D_multiply_97 (by decide) (fun hc => ?_) (fun hc => ?_)
  · exact absurd h2 ((and2 hhw).mp hc)
  · clear hc
    refine g_iconst X (v := b2 true) d_D_multiply_100 (by decide) ?_
    refine g_goto X 105 d_D_multiply_101 (by decide) ?_
    refine g_istore X d_D_multiply_105 (by decide) ?_
    refine g_iload X d_D_multiply_107 rfl ?_
    refine g_if_eq X 134 d_D_multiply_109 (by decide) (fun hd => ?_) (fun hd => ?_)
    · exact absurd hd (by decide)
    · refine g_aload_n X 0 d_D_multiply_112 rfl rfl ?_
      refine r_regs X d_D_multiply_113 ?_
      refine g_iload_n X 1 d_D_multiply_116 rfl rfl ?_
      refine r_aald X rfl (by omega) d_D_multiply_117 ?_
      refine g_aload X d_D_multiply_118 rfl ?_
      refine r_rows X kf_D_58 d_D_multiply_120 (by omega) ?_
      refine g_aload X d_D_multiply_123 rfl ?_
      refine r_cols X kf_D_62 d_D_multiply_125 (by omega) ?_
      refine g_VP X KOk.p v_D_82 (dl_m (by omega)) rfl (c_M_isShaped htr (by omega) (hM to (by omega)).1 (hM to (by omega)).2 (hM a (by omega)).1 (hM b (by omega)).2) d_D_multiply_128 rfl ⟨Nat.le_of_ble_eq_true rfl, Nat.le_of_ble_eq_true rfl, Nat.le_of_ble_eq_true rfl, Nat.le_of_ble_eq_true rfl⟩ ?_
      refine g_if_eq X 138 d_D_multiply_131 (by decide) (fun he => ?_) (fun he => ?_)
      · refine g_iconst X (v := b2 false) d_D_multiply_138 (by decide) ?_
        exact g_ST X KOk.p s_D_79 (c_D_reqFit_x htr (b := false) rfl) d_D_multiply_139 rfl ⟨Nat.le_of_ble_eq_true rfl, Nat.le_of_ble_eq_true rfl, Nat.le_of_ble_eq_true rfl, Nat.le_of_ble_eq_true rfl⟩ ⟨rfl, rfl⟩
      · exact absurd (b2_t he) (by rw [decide_eq_false hf3]; decide)
end PE
end
