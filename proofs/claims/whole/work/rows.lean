section
-- ===== PART A: goes FIRST, ahead of the names: the tables' words, and 'selects' of the private methods out of them =====
/-- a private method of a class that the tables say can be made, by its rows of tables_1 -/
def lw_okq (q : MethodName × Nat) : Prop := (q.1.cls ≠ "java/lang/invoke/MethodHandle" ∧ q.1.cls ≠ "java/lang/invoke/VarHandle") ∧ Cond.instantiable q.1.cls q.2 ∈ tables_1 ∧ Cond.privateMethod q.1 ∈ tables_1 ∧ Cond.instanceMethod q.1 ∈ tables_1
theorem lw_p0 : lw_okq (⟨"java/lang/Throwable", "fillInStackTrace", "(I)Ljava/lang/Throwable;"⟩, 6) := ⟨⟨by decide +kernel, by decide +kernel⟩, List.mem_of_getElem? (i := 102) (by decide +kernel), List.mem_of_getElem? (i := 100) (by decide +kernel), List.mem_of_getElem? (i := 101) (by decide +kernel)⟩
theorem lw_p1 : lw_okq (⟨"SemiringDesk", "requirePlace", "(III)V"⟩, 2) := ⟨⟨by decide +kernel, by decide +kernel⟩, List.mem_of_getElem? (i := 13) (by decide +kernel), List.mem_of_getElem? (i := 147) (by decide +kernel), List.mem_of_getElem? (i := 148) (by decide +kernel)⟩
theorem lw_p2 : lw_okq (⟨"SemiringDesk", "blank", "(II)LSemiringDesk$Matrix;"⟩, 2) := ⟨⟨by decide +kernel, by decide +kernel⟩, List.mem_of_getElem? (i := 13) (by decide +kernel), List.mem_of_getElem? (i := 268) (by decide +kernel), List.mem_of_getElem? (i := 269) (by decide +kernel)⟩
theorem lw_p3 : lw_okq (⟨"SemiringDesk", "keep", "(I)I"⟩, 2) := ⟨⟨by decide +kernel, by decide +kernel⟩, List.mem_of_getElem? (i := 13) (by decide +kernel), List.mem_of_getElem? (i := 322) (by decide +kernel), List.mem_of_getElem? (i := 323) (by decide +kernel)⟩
theorem lw_p4 : lw_okq (⟨"SemiringDesk", "requireSameShape", "(II)V"⟩, 2) := ⟨⟨by decide +kernel, by decide +kernel⟩, List.mem_of_getElem? (i := 13) (by decide +kernel), List.mem_of_getElem? (i := 333) (by decide +kernel), List.mem_of_getElem? (i := 334) (by decide +kernel)⟩
theorem lw_p5 : lw_okq (⟨"SemiringDesk", "requireGraph", "(I)V"⟩, 2) := ⟨⟨by decide +kernel, by decide +kernel⟩, List.mem_of_getElem? (i := 13) (by decide +kernel), List.mem_of_getElem? (i := 375) (by decide +kernel), List.mem_of_getElem? (i := 376) (by decide +kernel)⟩
theorem lw_p6 : lw_okq (⟨"SemiringDeskModel", "isPlace", "(III)Z"⟩, 10) := ⟨⟨by decide +kernel, by decide +kernel⟩, List.mem_of_getElem? (i := 425) (by decide +kernel), List.mem_of_getElem? (i := 478) (by decide +kernel), List.mem_of_getElem? (i := 479) (by decide +kernel)⟩
theorem lw_p7 : lw_okq (⟨"SemiringDeskModel", "entries", "(I)I"⟩, 10) := ⟨⟨by decide +kernel, by decide +kernel⟩, List.mem_of_getElem? (i := 425) (by decide +kernel), List.mem_of_getElem? (i := 499) (by decide +kernel), List.mem_of_getElem? (i := 500) (by decide +kernel)⟩
theorem lw_p8 : lw_okq (⟨"SemiringDeskModel", "begin", "(II)V"⟩, 10) := ⟨⟨by decide +kernel, by decide +kernel⟩, List.mem_of_getElem? (i := 425) (by decide +kernel), List.mem_of_getElem? (i := 510) (by decide +kernel), List.mem_of_getElem? (i := 511) (by decide +kernel)⟩
theorem lw_p9 : lw_okq (⟨"SemiringDeskModel", "cross", "(IIIII)V"⟩, 10) := ⟨⟨by decide +kernel, by decide +kernel⟩, List.mem_of_getElem? (i := 425) (by decide +kernel), List.mem_of_getElem? (i := 514) (by decide +kernel), List.mem_of_getElem? (i := 515) (by decide +kernel)⟩
theorem lw_p10 : lw_okq (⟨"SemiringDeskModel", "product", "(IJJ)J"⟩, 10) := ⟨⟨by decide +kernel, by decide +kernel⟩, List.mem_of_getElem? (i := 425) (by decide +kernel), List.mem_of_getElem? (i := 518) (by decide +kernel), List.mem_of_getElem? (i := 519) (by decide +kernel)⟩
theorem lw_p11 : lw_okq (⟨"SemiringDeskModel", "sum", "(IJJ)J"⟩, 10) := ⟨⟨by decide +kernel, by decide +kernel⟩, List.mem_of_getElem? (i := 425) (by decide +kernel), List.mem_of_getElem? (i := 525) (by decide +kernel), List.mem_of_getElem? (i := 526) (by decide +kernel)⟩
theorem lw_p12 : lw_okq (⟨"SemiringDeskModel", "make", "(IIJ)V"⟩, 10) := ⟨⟨by decide +kernel, by decide +kernel⟩, List.mem_of_getElem? (i := 425) (by decide +kernel), List.mem_of_getElem? (i := 529) (by decide +kernel), List.mem_of_getElem? (i := 530) (by decide +kernel)⟩
theorem lw_p13 : lw_okq (⟨"SemiringDeskModel", "join", "(II)V"⟩, 10) := ⟨⟨by decide +kernel, by decide +kernel⟩, List.mem_of_getElem? (i := 425) (by decide +kernel), List.mem_of_getElem? (i := 533) (by decide +kernel), List.mem_of_getElem? (i := 534) (by decide +kernel)⟩
theorem lw_p14 : lw_okq (⟨"SemiringDeskModel", "finish", "(II)I"⟩, 10) := ⟨⟨by decide +kernel, by decide +kernel⟩, List.mem_of_getElem? (i := 425) (by decide +kernel), List.mem_of_getElem? (i := 537) (by decide +kernel), List.mem_of_getElem? (i := 538) (by decide +kernel)⟩
theorem lw_p15 : lw_okq (⟨"SemiringDeskModel", "pair", "(IIII)I"⟩, 10) := ⟨⟨by decide +kernel, by decide +kernel⟩, List.mem_of_getElem? (i := 425) (by decide +kernel), List.mem_of_getElem? (i := 545) (by decide +kernel), List.mem_of_getElem? (i := 546) (by decide +kernel)⟩
def lw_privs_1 : List (MethodName × Nat) := [(⟨"java/lang/Throwable", "fillInStackTrace", "(I)Ljava/lang/Throwable;"⟩, 6), (⟨"SemiringDesk", "requirePlace", "(III)V"⟩, 2), (⟨"SemiringDesk", "blank", "(II)LSemiringDesk$Matrix;"⟩, 2), (⟨"SemiringDesk", "keep", "(I)I"⟩, 2), (⟨"SemiringDesk", "requireSameShape", "(II)V"⟩, 2), (⟨"SemiringDesk", "requireGraph", "(I)V"⟩, 2), (⟨"SemiringDeskModel", "isPlace", "(III)Z"⟩, 10), (⟨"SemiringDeskModel", "entries", "(I)I"⟩, 10), (⟨"SemiringDeskModel", "begin", "(II)V"⟩, 10), (⟨"SemiringDeskModel", "cross", "(IIIII)V"⟩, 10), (⟨"SemiringDeskModel", "product", "(IJJ)J"⟩, 10), (⟨"SemiringDeskModel", "sum", "(IJJ)J"⟩, 10), (⟨"SemiringDeskModel", "make", "(IIJ)V"⟩, 10), (⟨"SemiringDeskModel", "join", "(II)V"⟩, 10), (⟨"SemiringDeskModel", "finish", "(II)I"⟩, 10), (⟨"SemiringDeskModel", "pair", "(IIII)I"⟩, 10)]
theorem lw_r1 : ∀ q ∈ lw_privs_1, lw_okq q := List.forall_mem_cons.mpr ⟨lw_p0, List.forall_mem_cons.mpr ⟨lw_p1, List.forall_mem_cons.mpr ⟨lw_p2, List.forall_mem_cons.mpr ⟨lw_p3, List.forall_mem_cons.mpr ⟨lw_p4, List.forall_mem_cons.mpr ⟨lw_p5, List.forall_mem_cons.mpr ⟨lw_p6, List.forall_mem_cons.mpr ⟨lw_p7, List.forall_mem_cons.mpr ⟨lw_p8, List.forall_mem_cons.mpr ⟨lw_p9, List.forall_mem_cons.mpr ⟨lw_p10, List.forall_mem_cons.mpr ⟨lw_p11, List.forall_mem_cons.mpr ⟨lw_p12, List.forall_mem_cons.mpr ⟨lw_p13, List.forall_mem_cons.mpr ⟨lw_p14, List.forall_mem_cons.mpr ⟨lw_p15, fun _ h => absurd h List.not_mem_nil⟩⟩⟩⟩⟩⟩⟩⟩⟩⟩⟩⟩⟩⟩⟩⟩
theorem lw_p16 : lw_okq (⟨"SemiringDeskModel", "isSquare", "(I)Z"⟩, 10) := ⟨⟨by decide +kernel, by decide +kernel⟩, List.mem_of_getElem? (i := 425) (by decide +kernel), List.mem_of_getElem? (i := 572) (by decide +kernel), List.mem_of_getElem? (i := 573) (by decide +kernel)⟩
theorem lw_p17 : lw_okq (⟨"SemiringDeskModel", "relax", "()V"⟩, 10) := ⟨⟨by decide +kernel, by decide +kernel⟩, List.mem_of_getElem? (i := 425) (by decide +kernel), List.mem_of_getElem? (i := 582) (by decide +kernel), List.mem_of_getElem? (i := 583) (by decide +kernel)⟩
def lw_privs_2 : List (MethodName × Nat) := [(⟨"SemiringDeskModel", "isSquare", "(I)Z"⟩, 10), (⟨"SemiringDeskModel", "relax", "()V"⟩, 10)]
theorem lw_r2 : ∀ q ∈ lw_privs_2, lw_okq q := List.forall_mem_cons.mpr ⟨lw_p16, List.forall_mem_cons.mpr ⟨lw_p17, fun _ h => absurd h List.not_mem_nil⟩⟩
def lw_privs : List (MethodName × Nat) := lw_privs_1 ++ (lw_privs_2)
def lw_tbl : List Cond := k2_sels lw_privs ++ tables_1
theorem lw_privs_ok : ∀ q ∈ lw_privs, lw_okq q := by
  show ∀ q ∈ lw_privs_1 ++ (lw_privs_2), lw_okq q
  exact List.forall_mem_append.mpr ⟨lw_r1, lw_r2⟩
end
section
/-! names: classes, fields, methods, code words; which words of the tables a method may lean on -/
abbrev R_D : String := "SemiringDesk"
abbrev R_M : String := "SemiringDesk$Matrix"
abbrev R_R : String := "SemiringDeskModel"
abbrev R_L : String := "SemiringDeskLaw"
def F_D : u_T := fun k => match k with
  | 0 => ("SemiringDesk", "registers", "[LSemiringDesk$Matrix;", true)
  | _ => ("SemiringDesk", "spare", "LSemiringDesk$Matrix;", false)
def t_D : Nat → FieldType := fun k => match k with
  | 0 => .array (.object "SemiringDesk$Matrix")
  | _ => .object "SemiringDesk$Matrix"
theorem n_D : ∀ a, a < 2 → ∀ b, b < 2 → a ≠ b → (F_D a).2.1 ≠ (F_D b).2.1 := by decide +kernel
theorem t_D_ok : ∀ k, k < 2 → parseFieldDescriptor (F_D k).2.2.1 = some (t_D k) := by decide +kernel
def F_M : u_T := fun k => match k with
  | 0 => ("SemiringDesk$Matrix", "rows", "I", false)
  | 1 => ("SemiringDesk$Matrix", "columns", "I", false)
  | 2 => ("SemiringDesk$Matrix", "values", "[J", true)
  | _ => ("SemiringDesk$Matrix", "filled", "[Z", true)
def t_M : Nat → FieldType := fun k => match k with
  | 0 => .int
  | 1 => .int
  | 2 => .array .long
  | _ => .array .boolean
theorem n_M : ∀ a, a < 4 → ∀ b, b < 4 → a ≠ b → (F_M a).2.1 ≠ (F_M b).2.1 := by decide +kernel
theorem t_M_ok : ∀ k, k < 4 → parseFieldDescriptor (F_M k).2.2.1 = some (t_M k) := by decide +kernel
def F_R : u_T := fun k => match k with
  | 0 => ("SemiringDeskModel", "thrown", "I", false)
  | 1 => ("SemiringDeskModel", "rows", "[I", true)
  | 2 => ("SemiringDeskModel", "columns", "[I", true)
  | 3 => ("SemiringDeskModel", "has", "[Z", true)
  | 4 => ("SemiringDeskModel", "value", "[J", true)
  | 5 => ("SemiringDeskModel", "wide", "I", false)
  | 6 => ("SemiringDeskModel", "high", "I", false)
  | 7 => ("SemiringDeskModel", "there", "[Z", true)
  | 8 => ("SemiringDeskModel", "made", "[J", true)
  | _ => ("SemiringDeskModel", "far", "Z", false)
def t_R : Nat → FieldType := fun k => match k with
  | 0 => .int
  | 1 => .array .int
  | 2 => .array .int
  | 3 => .array .boolean
  | 4 => .array .long
  | 5 => .int
  | 6 => .int
  | 7 => .array .boolean
  | 8 => .array .long
  | _ => .boolean
theorem n_R : ∀ a, a < 10 → ∀ b, b < 10 → a ≠ b → (F_R a).2.1 ≠ (F_R b).2.1 := by decide +kernel
theorem t_R_ok : ∀ k, k < 10 → parseFieldDescriptor (F_R k).2.2.1 = some (t_R k) := by decide +kernel
/-- the classes whose objects the worlds hold -/
abbrev vwCl : List vw_C := [(R_D, F_D, 2), (R_M, F_M, 4), (R_R, F_R, 10)]
/-- the arrays that the worlds hold -/
abbrev tyl (c : Nat → ClassId) : List (ClassId × FieldType) := [(c 0, .int), (c 1, .long), (c 2, .boolean), (c 3, .object R_M)]
/-- a word that stays true under warmer tables -/
def pwB : Cond → Bool
  | .castable _ _ => true
  | .declares _ => true
  | .stringRef _ _ _ => true
  | w => goodWord w
/-- the words that every method leans on -/
def gl : List Cond := lw_tbl.filter pwB
theorem gl_of {w : Cond} (h : w ∈ lw_tbl) (hp : pwB w = true) : w ∈ gl := List.mem_filter.mpr ⟨h, hp⟩
theorem gl_T {w : Cond} (h : w ∈ tables_1) (hp : pwB w = true) : w ∈ gl := gl_of (List.mem_append_right _ h) hp
theorem pw_moves {w : Cond} (hp : pwB w = true) {a a' : Array Value} {s U : State} (hW : s.WarmedH U.vm) (h : w.before a s = true) : w.before a' U = true := by
  cases w with
  | castable x y =>
    have h1 : (Cond.castable x y).before a (s.setVm U.vm) = true := Cond.faceAtom_setVm hW.alike _ rfl h
    exact va_tabs (u := s.setVm U.vm) rfl rfl h1
  | declares x =>
    have h1 : (Cond.declares x).before a (s.setVm U.vm) = true := Cond.faceAtom_setVm hW.alike _ rfl h
    exact va_tabs (u := s.setVm U.vm) rfl rfl h1
  | stringRef x y z =>
    have h1 : (Cond.stringRef x y z).before a (s.setVm U.vm) = true := Cond.stringRef_warmed hW h
    simp only [Cond.before, Cond.holds, Cond.value, State.names, State.poolOf?, State.resolvedAt?] at h1 ⊢
    exact h1
  | _ => exact word_at hW (good_of_word hp) h
theorem gl_moves {w : Cond} (hw : w ∈ gl) {a a' : Array Value} {s U : State} (hW : s.WarmedH U.vm) (h : w.before a s = true) : w.before a' U = true := pw_moves (List.mem_filter.mp hw).2 hW h
theorem in_D : ∀ w ∈ u_ws R_D F_D 2, w ∈ gl := by decide +kernel
theorem in_M : ∀ w ∈ u_ws R_M F_M 4, w ∈ gl := by decide +kernel
theorem in_R : ∀ w ∈ u_ws R_R F_R 10, w ∈ gl := by decide +kernel
abbrev b_D_init : ByteArray := prog_1_method_1_code
abbrev y_D_init : MethodName := ⟨R_D, "<init>", "()V"⟩
abbrev cw_D_init : Cond := .code y_D_init b_D_init 2 none
abbrev b_D_shape : ByteArray := prog_1_method_2_code
abbrev y_D_shape : MethodName := ⟨R_D, "shape", "(III)V"⟩
abbrev cw_D_shape : Cond := .code y_D_shape b_D_shape 4 none
abbrev b_D_put : ByteArray := prog_1_method_3_code
abbrev y_D_put : MethodName := ⟨R_D, "put", "(IIIJ)V"⟩
abbrev cw_D_put : Cond := .code y_D_put b_D_put 6 none
abbrev b_D_drop : ByteArray := prog_1_method_4_code
abbrev y_D_drop : MethodName := ⟨R_D, "drop", "(III)Z"⟩
abbrev cw_D_drop : Cond := .code y_D_drop b_D_drop 5 (some .boolean)
abbrev b_D_at : ByteArray := prog_1_method_5_code
abbrev y_D_at : MethodName := ⟨R_D, "at", "(III)J"⟩
abbrev cw_D_at : Cond := .code y_D_at b_D_at 4 (some .long)
abbrev b_D_size : ByteArray := prog_1_method_6_code
abbrev y_D_size : MethodName := ⟨R_D, "size", "(I)I"⟩
abbrev cw_D_size : Cond := .code y_D_size b_D_size 3 (some .int)
abbrev b_D_multiply : ByteArray := prog_1_method_7_code
abbrev y_D_multiply : MethodName := ⟨R_D, "multiply", "(IIIIII)I"⟩
abbrev cw_D_multiply : Cond := .code y_D_multiply b_D_multiply 14 (some .int)
abbrev b_D_add : ByteArray := prog_1_method_8_code
abbrev y_D_add : MethodName := ⟨R_D, "add", "(IIII)I"⟩
abbrev cw_D_add : Cond := .code y_D_add b_D_add 6 (some .int)
abbrev b_D_each : ByteArray := prog_1_method_9_code
abbrev y_D_each : MethodName := ⟨R_D, "each", "(IIII)I"⟩
abbrev cw_D_each : Cond := .code y_D_each b_D_each 10 (some .int)
abbrev b_D_transpose : ByteArray := prog_1_method_10_code
abbrev y_D_transpose : MethodName := ⟨R_D, "transpose", "(II)I"⟩
abbrev cw_D_transpose : Cond := .code y_D_transpose b_D_transpose 7 (some .int)
abbrev b_D_select : ByteArray := prog_1_method_11_code
abbrev y_D_select : MethodName := ⟨R_D, "select", "(IIIJ)I"⟩
abbrev cw_D_select : Cond := .code y_D_select b_D_select 10 (some .int)
abbrev b_D_reduce : ByteArray := prog_1_method_12_code
abbrev y_D_reduce : MethodName := ⟨R_D, "reduce", "(II)J"⟩
abbrev cw_D_reduce : Cond := .code y_D_reduce b_D_reduce 7 (some .long)
abbrev b_D_levels : ByteArray := prog_1_method_13_code
abbrev y_D_levels : MethodName := ⟨R_D, "levels", "(III)I"⟩
abbrev cw_D_levels : Cond := .code y_D_levels b_D_levels 7 (some .int)
abbrev b_D_paths : ByteArray := prog_1_method_14_code
abbrev y_D_paths : MethodName := ⟨R_D, "paths", "(II)I"⟩
abbrev cw_D_paths : Cond := .code y_D_paths b_D_paths 6 (some .int)
abbrev b_D_triangles : ByteArray := prog_1_method_15_code
abbrev y_D_triangles : MethodName := ⟨R_D, "triangles", "(I)I"⟩
abbrev cw_D_triangles : Cond := .code y_D_triangles b_D_triangles 7 (some .int)
abbrev b_D_components : ByteArray := prog_1_method_16_code
abbrev y_D_components : MethodName := ⟨R_D, "components", "(II)I"⟩
abbrev cw_D_components : Cond := .code y_D_components b_D_components 6 (some .int)
abbrev b_D_blank : ByteArray := prog_1_method_17_code
abbrev y_D_blank : MethodName := ⟨R_D, "blank", "(II)LSemiringDesk$Matrix;"⟩
abbrev cw_D_blank : Cond := .code y_D_blank b_D_blank 3 (some (.object "SemiringDesk$Matrix"))
abbrev b_D_keep : ByteArray := prog_1_method_18_code
abbrev y_D_keep : MethodName := ⟨R_D, "keep", "(I)I"⟩
abbrev cw_D_keep : Cond := .code y_D_keep b_D_keep 3 (some .int)
abbrev b_D_gatherProducts : ByteArray := prog_1_method_19_code
abbrev y_D_gatherProducts : MethodName := ⟨R_D, "gatherProducts", "(LSemiringDesk$Matrix;LSemiringDesk$Matrix;LSemiringDesk$Matrix;III)V"⟩
abbrev cw_D_gatherProducts : Cond := .code y_D_gatherProducts b_D_gatherProducts 7 none
abbrev b_D_gatherAll : ByteArray := prog_1_method_20_code
abbrev y_D_gatherAll : MethodName := ⟨R_D, "gatherAll", "(LSemiringDesk$Matrix;LSemiringDesk$Matrix;I)V"⟩
abbrev cw_D_gatherAll : Cond := .code y_D_gatherAll b_D_gatherAll 5 none
abbrev b_D_gather : ByteArray := prog_1_method_21_code
abbrev y_D_gather : MethodName := ⟨R_D, "gather", "(LSemiringDesk$Matrix;IIJI)V"⟩
abbrev cw_D_gather : Cond := .code y_D_gather b_D_gather 6 none
abbrev b_D_dropZeros : ByteArray := prog_1_method_22_code
abbrev y_D_dropZeros : MethodName := ⟨R_D, "dropZeros", "(LSemiringDesk$Matrix;I)V"⟩
abbrev cw_D_dropZeros : Cond := .code y_D_dropZeros b_D_dropZeros 4 none
abbrev b_D_sumOver : ByteArray := prog_1_method_23_code
abbrev y_D_sumOver : MethodName := ⟨R_D, "sumOver", "(IJJ)J"⟩
abbrev cw_D_sumOver : Cond := .code y_D_sumOver b_D_sumOver 5 (some .long)
abbrev b_D_productOver : ByteArray := prog_1_method_24_code
abbrev y_D_productOver : MethodName := ⟨R_D, "productOver", "(IJJ)J"⟩
abbrev cw_D_productOver : Cond := .code y_D_productOver b_D_productOver 5 (some .long)
abbrev b_D_plus : ByteArray := prog_1_method_25_code
abbrev y_D_plus : MethodName := ⟨R_D, "plus", "(JJ)J"⟩
abbrev cw_D_plus : Cond := .code y_D_plus b_D_plus 6 (some .long)
abbrev b_D_times : ByteArray := prog_1_method_26_code
abbrev y_D_times : MethodName := ⟨R_D, "times", "(JJ)J"⟩
abbrev cw_D_times : Cond := .code y_D_times b_D_times 4 (some .long)
abbrev b_D_isSelected : ByteArray := prog_1_method_27_code
abbrev y_D_isSelected : MethodName := ⟨R_D, "isSelected", "(IIIJJ)Z"⟩
abbrev cw_D_isSelected : Cond := .code y_D_isSelected b_D_isSelected 7 (some .boolean)
abbrev b_D_enterNextLevel : ByteArray := prog_1_method_28_code
abbrev y_D_enterNextLevel : MethodName := ⟨R_D, "enterNextLevel", "(LSemiringDesk$Matrix;LSemiringDesk$Matrix;I)V"⟩
abbrev cw_D_enterNextLevel : Cond := .code y_D_enterNextLevel b_D_enterNextLevel 4 none
abbrev b_D_enterNeighbours : ByteArray := prog_1_method_29_code
abbrev y_D_enterNeighbours : MethodName := ⟨R_D, "enterNeighbours", "(LSemiringDesk$Matrix;LSemiringDesk$Matrix;II)V"⟩
abbrev cw_D_enterNeighbours : Cond := .code y_D_enterNeighbours b_D_enterNeighbours 5 none
abbrev b_D_shortenOver : ByteArray := prog_1_method_30_code
abbrev y_D_shortenOver : MethodName := ⟨R_D, "shortenOver", "(LSemiringDesk$Matrix;I)V"⟩
abbrev cw_D_shortenOver : Cond := .code y_D_shortenOver b_D_shortenOver 6 none
abbrev b_D_spreadLeastVertices : ByteArray := prog_1_method_31_code
abbrev y_D_spreadLeastVertices : MethodName := ⟨R_D, "spreadLeastVertices", "(LSemiringDesk$Matrix;LSemiringDesk$Matrix;)V"⟩
abbrev cw_D_spreadLeastVertices : Cond := .code y_D_spreadLeastVertices b_D_spreadLeastVertices 6 none
abbrev b_D_isValue : ByteArray := prog_1_method_32_code
abbrev y_D_isValue : MethodName := ⟨R_D, "isValue", "(J)Z"⟩
abbrev cw_D_isValue : Cond := .code y_D_isValue b_D_isValue 2 (some .boolean)
abbrev b_D_requireRegister : ByteArray := prog_1_method_33_code
abbrev y_D_requireRegister : MethodName := ⟨R_D, "requireRegister", "(I)V"⟩
abbrev cw_D_requireRegister : Cond := .code y_D_requireRegister b_D_requireRegister 1 none
abbrev b_D_requireSemiring : ByteArray := prog_1_method_34_code
abbrev y_D_requireSemiring : MethodName := ⟨R_D, "requireSemiring", "(I)V"⟩
abbrev cw_D_requireSemiring : Cond := .code y_D_requireSemiring b_D_requireSemiring 1 none
abbrev b_D_requireOperands : ByteArray := prog_1_method_35_code
abbrev y_D_requireOperands : MethodName := ⟨R_D, "requireOperands", "(IIII)V"⟩
abbrev cw_D_requireOperands : Cond := .code y_D_requireOperands b_D_requireOperands 4 none
abbrev b_D_requireMask : ByteArray := prog_1_method_36_code
abbrev y_D_requireMask : MethodName := ⟨R_D, "requireMask", "(I)V"⟩
abbrev cw_D_requireMask : Cond := .code y_D_requireMask b_D_requireMask 1 none
abbrev b_D_requireHow : ByteArray := prog_1_method_37_code
abbrev y_D_requireHow : MethodName := ⟨R_D, "requireHow", "(II)V"⟩
abbrev cw_D_requireHow : Cond := .code y_D_requireHow b_D_requireHow 2 none
abbrev b_D_requireSide : ByteArray := prog_1_method_38_code
abbrev y_D_requireSide : MethodName := ⟨R_D, "requireSide", "(I)V"⟩
abbrev cw_D_requireSide : Cond := .code y_D_requireSide b_D_requireSide 1 none
abbrev b_D_requirePlace : ByteArray := prog_1_method_39_code
abbrev y_D_requirePlace : MethodName := ⟨R_D, "requirePlace", "(III)V"⟩
abbrev cw_D_requirePlace : Cond := .code y_D_requirePlace b_D_requirePlace 4 none
abbrev b_D_requireValue : ByteArray := prog_1_method_40_code
abbrev y_D_requireValue : MethodName := ⟨R_D, "requireValue", "(J)V"⟩
abbrev cw_D_requireValue : Cond := .code y_D_requireValue b_D_requireValue 2 none
abbrev b_D_requireEntry : ByteArray := prog_1_method_41_code
abbrev y_D_requireEntry : MethodName := ⟨R_D, "requireEntry", "(Z)V"⟩
abbrev cw_D_requireEntry : Cond := .code y_D_requireEntry b_D_requireEntry 1 none
abbrev b_D_requireFit : ByteArray := prog_1_method_42_code
abbrev y_D_requireFit : MethodName := ⟨R_D, "requireFit", "(Z)V"⟩
abbrev cw_D_requireFit : Cond := .code y_D_requireFit b_D_requireFit 1 none
abbrev b_D_requireSameShape : ByteArray := prog_1_method_43_code
abbrev y_D_requireSameShape : MethodName := ⟨R_D, "requireSameShape", "(II)V"⟩
abbrev cw_D_requireSameShape : Cond := .code y_D_requireSameShape b_D_requireSameShape 3 none
abbrev b_D_requireGraph : ByteArray := prog_1_method_44_code
abbrev y_D_requireGraph : MethodName := ⟨R_D, "requireGraph", "(I)V"⟩
abbrev cw_D_requireGraph : Cond := .code y_D_requireGraph b_D_requireGraph 2 none
abbrev b_D_requireVertex : ByteArray := prog_1_method_45_code
abbrev y_D_requireVertex : MethodName := ⟨R_D, "requireVertex", "(LSemiringDesk$Matrix;I)V"⟩
abbrev cw_D_requireVertex : Cond := .code y_D_requireVertex b_D_requireVertex 2 none
abbrev b_D_requireLengths : ByteArray := prog_1_method_46_code
abbrev y_D_requireLengths : MethodName := ⟨R_D, "requireLengths", "(LSemiringDesk$Matrix;)V"⟩
abbrev cw_D_requireLengths : Cond := .code y_D_requireLengths b_D_requireLengths 3 none
abbrev b_D_requireNoCircleBelowZero : ByteArray := prog_1_method_47_code
abbrev y_D_requireNoCircleBelowZero : MethodName := ⟨R_D, "requireNoCircleBelowZero", "(LSemiringDesk$Matrix;)V"⟩
abbrev cw_D_requireNoCircleBelowZero : Cond := .code y_D_requireNoCircleBelowZero b_D_requireNoCircleBelowZero 2 none
abbrev b_R_init : ByteArray := prog_4_method_1_code
abbrev y_R_init : MethodName := ⟨R_R, "<init>", "()V"⟩
abbrev cw_R_init : Cond := .code y_R_init b_R_init 1 none
abbrev b_R_thrown : ByteArray := prog_4_method_2_code
abbrev y_R_thrown : MethodName := ⟨R_R, "thrown", "()I"⟩
abbrev cw_R_thrown : Cond := .code y_R_thrown b_R_thrown 1 (some .int)
abbrev b_R_isRegister : ByteArray := prog_4_method_3_code
abbrev y_R_isRegister : MethodName := ⟨R_R, "isRegister", "(I)Z"⟩
abbrev cw_R_isRegister : Cond := .code y_R_isRegister b_R_isRegister 1 (some .boolean)
abbrev b_R_isRing : ByteArray := prog_4_method_4_code
abbrev y_R_isRing : MethodName := ⟨R_R, "isRing", "(I)Z"⟩
abbrev cw_R_isRing : Cond := .code y_R_isRing b_R_isRing 1 (some .boolean)
abbrev b_R_isValue : ByteArray := prog_4_method_5_code
abbrev y_R_isValue : MethodName := ⟨R_R, "isValue", "(J)Z"⟩
abbrev cw_R_isValue : Cond := .code y_R_isValue b_R_isValue 2 (some .boolean)
abbrev b_R_isPlace : ByteArray := prog_4_method_6_code
abbrev y_R_isPlace : MethodName := ⟨R_R, "isPlace", "(III)Z"⟩
abbrev cw_R_isPlace : Cond := .code y_R_isPlace b_R_isPlace 4 (some .boolean)
abbrev b_R_shape : ByteArray := prog_4_method_7_code
abbrev y_R_shape : MethodName := ⟨R_R, "shape", "(III)V"⟩
abbrev cw_R_shape : Cond := .code y_R_shape b_R_shape 5 none
abbrev b_R_put : ByteArray := prog_4_method_8_code
abbrev y_R_put : MethodName := ⟨R_R, "put", "(IIIJ)V"⟩
abbrev cw_R_put : Cond := .code y_R_put b_R_put 6 none
abbrev b_R_drop : ByteArray := prog_4_method_9_code
abbrev y_R_drop : MethodName := ⟨R_R, "drop", "(III)Z"⟩
abbrev cw_R_drop : Cond := .code y_R_drop b_R_drop 5 (some .boolean)
abbrev b_R_at : ByteArray := prog_4_method_10_code
abbrev y_R_at : MethodName := ⟨R_R, "at", "(III)J"⟩
abbrev cw_R_at : Cond := .code y_R_at b_R_at 4 (some .long)
abbrev b_R_entries : ByteArray := prog_4_method_11_code
abbrev y_R_entries : MethodName := ⟨R_R, "entries", "(I)I"⟩
abbrev cw_R_entries : Cond := .code y_R_entries b_R_entries 4 (some .int)
abbrev b_R_size : ByteArray := prog_4_method_12_code
abbrev y_R_size : MethodName := ⟨R_R, "size", "(I)I"⟩
abbrev cw_R_size : Cond := .code y_R_size b_R_size 2 (some .int)
abbrev b_R_sum : ByteArray := prog_4_method_13_code
abbrev y_R_sum : MethodName := ⟨R_R, "sum", "(IJJ)J"⟩
abbrev cw_R_sum : Cond := .code y_R_sum b_R_sum 8 (some .long)
abbrev b_R_size0 : ByteArray := prog_4_method_14_code
abbrev y_R_size0 : MethodName := ⟨R_R, "size0", "(J)J"⟩
abbrev cw_R_size0 : Cond := .code y_R_size0 b_R_size0 2 (some .long)
abbrev b_R_product : ByteArray := prog_4_method_15_code
abbrev y_R_product : MethodName := ⟨R_R, "product", "(IJJ)J"⟩
abbrev cw_R_product : Cond := .code y_R_product b_R_product 8 (some .long)
abbrev b_R_begin : ByteArray := prog_4_method_16_code
abbrev y_R_begin : MethodName := ⟨R_R, "begin", "(II)V"⟩
abbrev cw_R_begin : Cond := .code y_R_begin b_R_begin 4 none
abbrev b_R_make : ByteArray := prog_4_method_17_code
abbrev y_R_make : MethodName := ⟨R_R, "make", "(IIJ)V"⟩
abbrev cw_R_make : Cond := .code y_R_make b_R_make 5 none
abbrev b_R_finish : ByteArray := prog_4_method_18_code
abbrev y_R_finish : MethodName := ⟨R_R, "finish", "(II)I"⟩
abbrev cw_R_finish : Cond := .code y_R_finish b_R_finish 4 (some .int)
abbrev b_R_cross : ByteArray := prog_4_method_19_code
abbrev y_R_cross : MethodName := ⟨R_R, "cross", "(IIIII)V"⟩
abbrev cw_R_cross : Cond := .code y_R_cross b_R_cross 14 none
abbrev b_R_join : ByteArray := prog_4_method_20_code
abbrev y_R_join : MethodName := ⟨R_R, "join", "(II)V"⟩
abbrev cw_R_join : Cond := .code y_R_join b_R_join 5 none
abbrev b_R_multiply : ByteArray := prog_4_method_21_code
abbrev y_R_multiply : MethodName := ⟨R_R, "multiply", "(IIIIII)I"⟩
abbrev cw_R_multiply : Cond := .code y_R_multiply b_R_multiply 11 (some .int)
abbrev b_R_pair : ByteArray := prog_4_method_22_code
abbrev y_R_pair : MethodName := ⟨R_R, "pair", "(IIII)I"⟩
abbrev cw_R_pair : Cond := .code y_R_pair b_R_pair 5 (some .int)
abbrev b_R_add : ByteArray := prog_4_method_23_code
abbrev y_R_add : MethodName := ⟨R_R, "add", "(IIII)I"⟩
abbrev cw_R_add : Cond := .code y_R_add b_R_add 8 (some .int)
abbrev b_R_each : ByteArray := prog_4_method_24_code
abbrev y_R_each : MethodName := ⟨R_R, "each", "(IIII)I"⟩
abbrev cw_R_each : Cond := .code y_R_each b_R_each 6 (some .int)
abbrev b_R_transpose : ByteArray := prog_4_method_25_code
abbrev y_R_transpose : MethodName := ⟨R_R, "transpose", "(II)I"⟩
abbrev cw_R_transpose : Cond := .code y_R_transpose b_R_transpose 4 (some .int)
abbrev b_R_chosen : ByteArray := prog_4_method_26_code
abbrev y_R_chosen : MethodName := ⟨R_R, "chosen", "(IIIJJ)Z"⟩
abbrev cw_R_chosen : Cond := .code y_R_chosen b_R_chosen 7 (some .boolean)
abbrev b_R_select : ByteArray := prog_4_method_27_code
abbrev y_R_select : MethodName := ⟨R_R, "select", "(IIIJ)I"⟩
abbrev cw_R_select : Cond := .code y_R_select b_R_select 7 (some .int)
abbrev b_R_reduce : ByteArray := prog_4_method_28_code
abbrev y_R_reduce : MethodName := ⟨R_R, "reduce", "(II)J"⟩
abbrev cw_R_reduce : Cond := .code y_R_reduce b_R_reduce 7 (some .long)
abbrev b_R_isSquare : ByteArray := prog_4_method_29_code
abbrev y_R_isSquare : MethodName := ⟨R_R, "isSquare", "(I)Z"⟩
abbrev cw_R_isSquare : Cond := .code y_R_isSquare b_R_isSquare 2 (some .boolean)
abbrev b_R_levels : ByteArray := prog_4_method_30_code
abbrev y_R_levels : MethodName := ⟨R_R, "levels", "(III)I"⟩
abbrev cw_R_levels : Cond := .code y_R_levels b_R_levels 7 (some .int)
abbrev b_R_relax : ByteArray := prog_4_method_31_code
abbrev y_R_relax : MethodName := ⟨R_R, "relax", "()V"⟩
abbrev cw_R_relax : Cond := .code y_R_relax b_R_relax 6 none
abbrev b_R_paths : ByteArray := prog_4_method_32_code
abbrev y_R_paths : MethodName := ⟨R_R, "paths", "(II)I"⟩
abbrev cw_R_paths : Cond := .code y_R_paths b_R_paths 6 (some .int)
abbrev b_R_triangles : ByteArray := prog_4_method_33_code
abbrev y_R_triangles : MethodName := ⟨R_R, "triangles", "(I)I"⟩
abbrev cw_R_triangles : Cond := .code y_R_triangles b_R_triangles 7 (some .int)
abbrev b_R_components : ByteArray := prog_4_method_34_code
abbrev y_R_components : MethodName := ⟨R_R, "components", "(II)I"⟩
abbrev cw_R_components : Cond := .code y_R_components b_R_components 8 (some .int)
abbrev b_M_init : ByteArray := prog_2_method_1_code
abbrev y_M_init : MethodName := ⟨R_M, "<init>", "()V"⟩
abbrev cw_M_init : Cond := .code y_M_init b_M_init 1 none
abbrev b_M_clear : ByteArray := prog_2_method_2_code
abbrev y_M_clear : MethodName := ⟨R_M, "clear", "(II)V"⟩
abbrev cw_M_clear : Cond := .code y_M_clear b_M_clear 4 none
abbrev b_M_isShaped : ByteArray := prog_2_method_3_code
abbrev y_M_isShaped : MethodName := ⟨R_M, "isShaped", "(II)Z"⟩
abbrev cw_M_isShaped : Cond := .code y_M_isShaped b_M_isShaped 3 (some .boolean)
abbrev b_M_has : ByteArray := prog_2_method_4_code
abbrev y_M_has : MethodName := ⟨R_M, "has", "(II)Z"⟩
abbrev cw_M_has : Cond := .code y_M_has b_M_has 3 (some .boolean)
abbrev b_M_value : ByteArray := prog_2_method_5_code
abbrev y_M_value : MethodName := ⟨R_M, "value", "(II)J"⟩
abbrev cw_M_value : Cond := .code y_M_value b_M_value 3 (some .long)
abbrev b_M_enter : ByteArray := prog_2_method_6_code
abbrev y_M_enter : MethodName := ⟨R_M, "enter", "(IIJ)V"⟩
abbrev cw_M_enter : Cond := .code y_M_enter b_M_enter 5 none
abbrev b_M_remove : ByteArray := prog_2_method_7_code
abbrev y_M_remove : MethodName := ⟨R_M, "remove", "(II)V"⟩
abbrev cw_M_remove : Cond := .code y_M_remove b_M_remove 3 none
abbrev b_M_count : ByteArray := prog_2_method_8_code
abbrev y_M_count : MethodName := ⟨R_M, "count", "()I"⟩
abbrev cw_M_count : Cond := .code y_M_count b_M_count 3 (some .int)
abbrev b_L_shape : ByteArray := method_3_code
abbrev y_L_shape : MethodName := ⟨R_L, "shape", "(LSemiringDesk;III)I"⟩
abbrev hh_L_shape : List (Nat × Nat × Nat × Nat) := [(0, 7, 10, 13)]
abbrev cw_L_shape : Cond := .codeWith y_L_shape b_L_shape 5 (some .int) hh_L_shape
abbrev b_L_put : ByteArray := method_4_code
abbrev y_L_put : MethodName := ⟨R_L, "put", "(LSemiringDesk;IIIJ)I"⟩
abbrev hh_L_put : List (Nat × Nat × Nat × Nat) := [(0, 9, 12, 13)]
abbrev cw_L_put : Cond := .codeWith y_L_put b_L_put 7 (some .int) hh_L_put
abbrev b_L_drop : ByteArray := method_5_code
abbrev y_L_drop : MethodName := ⟨R_L, "drop", "(LSemiringDesk;III[J)I"⟩
abbrev hh_L_drop : List (Nat × Nat × Nat × Nat) := [(0, 19, 22, 13)]
abbrev cw_L_drop : Cond := .codeWith y_L_drop b_L_drop 6 (some .int) hh_L_drop
abbrev b_L_at : ByteArray := method_6_code
abbrev y_L_at : MethodName := ⟨R_L, "at", "(LSemiringDesk;III[J)I"⟩
abbrev hh_L_at : List (Nat × Nat × Nat × Nat) := [(0, 11, 14, 13), (0, 11, 18, 27)]
abbrev cw_L_at : Cond := .codeWith y_L_at b_L_at 6 (some .int) hh_L_at
abbrev b_L_size : ByteArray := method_7_code
abbrev y_L_size : MethodName := ⟨R_L, "size", "(LSemiringDesk;I[J)I"⟩
abbrev hh_L_size : List (Nat × Nat × Nat × Nat) := [(0, 9, 12, 13)]
abbrev cw_L_size : Cond := .codeWith y_L_size b_L_size 4 (some .int) hh_L_size
abbrev b_L_multiply : ByteArray := method_8_code
abbrev y_L_multiply : MethodName := ⟨R_L, "multiply", "(LSemiringDesk;IIIIII[J)I"⟩
abbrev hh_L_multiply : List (Nat × Nat × Nat × Nat) := [(0, 18, 21, 13), (0, 18, 25, 37), (0, 18, 29, 39)]
abbrev cw_L_multiply : Cond := .codeWith y_L_multiply b_L_multiply 9 (some .int) hh_L_multiply
abbrev b_L_add : ByteArray := method_9_code
abbrev y_L_add : MethodName := ⟨R_L, "add", "(LSemiringDesk;IIII[J)I"⟩
abbrev hh_L_add : List (Nat × Nat × Nat × Nat) := [(0, 14, 17, 13), (0, 14, 21, 37), (0, 14, 25, 39)]
abbrev cw_L_add : Cond := .codeWith y_L_add b_L_add 7 (some .int) hh_L_add
abbrev b_L_each : ByteArray := method_10_code
abbrev y_L_each : MethodName := ⟨R_L, "each", "(LSemiringDesk;IIII[J)I"⟩
abbrev hh_L_each : List (Nat × Nat × Nat × Nat) := [(0, 14, 17, 13), (0, 14, 21, 37), (0, 14, 25, 39)]
abbrev cw_L_each : Cond := .codeWith y_L_each b_L_each 7 (some .int) hh_L_each
abbrev b_L_transpose : ByteArray := method_11_code
abbrev y_L_transpose : MethodName := ⟨R_L, "transpose", "(LSemiringDesk;II[J)I"⟩
abbrev hh_L_transpose : List (Nat × Nat × Nat × Nat) := [(0, 10, 13, 13)]
abbrev cw_L_transpose : Cond := .codeWith y_L_transpose b_L_transpose 5 (some .int) hh_L_transpose
abbrev b_L_select : ByteArray := method_12_code
abbrev y_L_select : MethodName := ⟨R_L, "select", "(LSemiringDesk;IIIJ[J)I"⟩
abbrev hh_L_select : List (Nat × Nat × Nat × Nat) := [(0, 14, 17, 13)]
abbrev cw_L_select : Cond := .codeWith y_L_select b_L_select 8 (some .int) hh_L_select
abbrev b_L_reduce : ByteArray := method_13_code
abbrev y_L_reduce : MethodName := ⟨R_L, "reduce", "(LSemiringDesk;II[J)I"⟩
abbrev hh_L_reduce : List (Nat × Nat × Nat × Nat) := [(0, 9, 12, 13), (0, 9, 16, 27), (0, 9, 20, 39)]
abbrev cw_L_reduce : Cond := .codeWith y_L_reduce b_L_reduce 5 (some .int) hh_L_reduce
abbrev b_L_levels : ByteArray := method_14_code
abbrev y_L_levels : MethodName := ⟨R_L, "levels", "(LSemiringDesk;III[J)I"⟩
abbrev hh_L_levels : List (Nat × Nat × Nat × Nat) := [(0, 12, 15, 13), (0, 12, 19, 37), (0, 12, 23, 27)]
abbrev cw_L_levels : Cond := .codeWith y_L_levels b_L_levels 6 (some .int) hh_L_levels
abbrev b_L_paths : ByteArray := method_15_code
abbrev y_L_paths : MethodName := ⟨R_L, "paths", "(LSemiringDesk;II[J)I"⟩
abbrev hh_L_paths : List (Nat × Nat × Nat × Nat) := [(0, 10, 13, 13), (0, 10, 17, 37), (0, 10, 21, 39), (0, 10, 25, 27)]
abbrev cw_L_paths : Cond := .codeWith y_L_paths b_L_paths 5 (some .int) hh_L_paths
abbrev b_L_triangles : ByteArray := method_16_code
abbrev y_L_triangles : MethodName := ⟨R_L, "triangles", "(LSemiringDesk;I[J)I"⟩
abbrev hh_L_triangles : List (Nat × Nat × Nat × Nat) := [(0, 9, 12, 13), (0, 9, 15, 37)]
abbrev cw_L_triangles : Cond := .codeWith y_L_triangles b_L_triangles 4 (some .int) hh_L_triangles
abbrev b_L_components : ByteArray := method_17_code
abbrev y_L_components : MethodName := ⟨R_L, "components", "(LSemiringDesk;II[J)I"⟩
abbrev hh_L_components : List (Nat × Nat × Nat × Nat) := [(0, 10, 13, 13), (0, 10, 17, 37)]
abbrev cw_L_components : Cond := .codeWith y_L_components b_L_components 5 (some .int) hh_L_components
end
section
set_option maxRecDepth 100000 in
theorem kc_D_init : cw_D_init ∈ gl := gl_T (List.mem_append_left _ (List.mem_of_getElem? (i := 16) rfl)) rfl
set_option maxRecDepth 100000 in
theorem kc_D_shape : cw_D_shape ∈ gl := gl_T (List.mem_append_left _ (List.mem_of_getElem? (i := 58) rfl)) rfl
set_option maxRecDepth 100000 in
theorem kc_D_put : cw_D_put ∈ gl := gl_T (List.mem_append_left _ (List.mem_of_getElem? (i := 145) rfl)) rfl
set_option maxRecDepth 100000 in
theorem kc_D_drop : cw_D_drop ∈ gl := gl_T (List.mem_append_left _ (List.mem_of_getElem? (i := 170) rfl)) rfl
set_option maxRecDepth 100000 in
theorem kc_D_at : cw_D_at ∈ gl := gl_T (List.mem_append_left _ (List.mem_of_getElem? (i := 186) rfl)) rfl
set_option maxRecDepth 100000 in
theorem kc_D_size : cw_D_size ∈ gl := gl_T (List.mem_append_left _ (List.mem_of_getElem? (i := 216) rfl)) rfl
set_option maxRecDepth 100000 in
theorem kc_D_multiply : cw_D_multiply ∈ gl := gl_T (List.mem_append_left _ (List.mem_of_getElem? (i := 229) rfl)) rfl
set_option maxRecDepth 100000 in
theorem kc_D_add : cw_D_add ∈ gl := gl_T (List.mem_append_right _ (List.mem_append_left _ (List.mem_of_getElem? (i := 91) rfl))) rfl
set_option maxRecDepth 100000 in
theorem kc_D_each : cw_D_each ∈ gl := gl_T (List.mem_append_right _ (List.mem_append_left _ (List.mem_of_getElem? (i := 102) rfl))) rfl
set_option maxRecDepth 100000 in
theorem kc_D_transpose : cw_D_transpose ∈ gl := gl_T (List.mem_append_right _ (List.mem_append_left _ (List.mem_of_getElem? (i := 109) rfl))) rfl
set_option maxRecDepth 100000 in
theorem kc_D_select : cw_D_select ∈ gl := gl_T (List.mem_append_right _ (List.mem_append_left _ (List.mem_of_getElem? (i := 116) rfl))) rfl
set_option maxRecDepth 100000 in
theorem kc_D_reduce : cw_D_reduce ∈ gl := gl_T (List.mem_append_right _ (List.mem_append_left _ (List.mem_of_getElem? (i := 126) rfl))) rfl
set_option maxRecDepth 100000 in
theorem kc_D_levels : cw_D_levels ∈ gl := gl_T (List.mem_append_right _ (List.mem_append_left _ (List.mem_of_getElem? (i := 133) rfl))) rfl
set_option maxRecDepth 100000 in
theorem kc_D_paths : cw_D_paths ∈ gl := gl_T (List.mem_append_right _ (List.mem_append_left _ (List.mem_of_getElem? (i := 154) rfl))) rfl
set_option maxRecDepth 100000 in
theorem kc_D_triangles : cw_D_triangles ∈ gl := gl_T (List.mem_append_right _ (List.mem_append_left _ (List.mem_of_getElem? (i := 173) rfl))) rfl
set_option maxRecDepth 100000 in
theorem kc_D_components : cw_D_components ∈ gl := gl_T (List.mem_append_right _ (List.mem_append_left _ (List.mem_of_getElem? (i := 180) rfl))) rfl
set_option maxRecDepth 100000 in
theorem kc_D_blank : cw_D_blank ∈ gl := gl_T (List.mem_append_right _ (List.mem_append_left _ (List.mem_of_getElem? (i := 30) rfl))) rfl
set_option maxRecDepth 100000 in
theorem kc_D_keep : cw_D_keep ∈ gl := gl_T (List.mem_append_right _ (List.mem_append_left _ (List.mem_of_getElem? (i := 84) rfl))) rfl
set_option maxRecDepth 100000 in
theorem kc_D_gatherProducts : cw_D_gatherProducts ∈ gl := gl_T (List.mem_append_right _ (List.mem_append_left _ (List.mem_of_getElem? (i := 33) rfl))) rfl
set_option maxRecDepth 100000 in
theorem kc_D_gatherAll : cw_D_gatherAll ∈ gl := gl_T (List.mem_append_right _ (List.mem_append_left _ (List.mem_of_getElem? (i := 77) rfl))) rfl
set_option maxRecDepth 100000 in
theorem kc_D_gather : cw_D_gather ∈ gl := gl_T (List.mem_append_right _ (List.mem_append_left _ (List.mem_of_getElem? (i := 68) rfl))) rfl
set_option maxRecDepth 100000 in
theorem kc_D_dropZeros : cw_D_dropZeros ∈ gl := gl_T (List.mem_append_right _ (List.mem_append_left _ (List.mem_of_getElem? (i := 80) rfl))) rfl
set_option maxRecDepth 100000 in
theorem kc_D_sumOver : cw_D_sumOver ∈ gl := gl_T (List.mem_append_right _ (List.mem_append_left _ (List.mem_of_getElem? (i := 71) rfl))) rfl
set_option maxRecDepth 100000 in
theorem kc_D_productOver : cw_D_productOver ∈ gl := gl_T (List.mem_append_right _ (List.mem_append_left _ (List.mem_of_getElem? (i := 36) rfl))) rfl
set_option maxRecDepth 100000 in
theorem kc_D_plus : cw_D_plus ∈ gl := gl_T (List.mem_append_right _ (List.mem_append_left _ (List.mem_of_getElem? (i := 61) rfl))) rfl
set_option maxRecDepth 100000 in
theorem kc_D_times : cw_D_times ∈ gl := gl_T (List.mem_append_right _ (List.mem_append_left _ (List.mem_of_getElem? (i := 39) rfl))) rfl
set_option maxRecDepth 100000 in
theorem kc_D_isSelected : cw_D_isSelected ∈ gl := gl_T (List.mem_append_right _ (List.mem_append_left _ (List.mem_of_getElem? (i := 119) rfl))) rfl
set_option maxRecDepth 100000 in
theorem kc_D_enterNextLevel : cw_D_enterNextLevel ∈ gl := gl_T (List.mem_append_right _ (List.mem_append_left _ (List.mem_of_getElem? (i := 144) rfl))) rfl
set_option maxRecDepth 100000 in
theorem kc_D_enterNeighbours : cw_D_enterNeighbours ∈ gl := gl_T (List.mem_append_right _ (List.mem_append_left _ (List.mem_of_getElem? (i := 147) rfl))) rfl
set_option maxRecDepth 100000 in
theorem kc_D_shortenOver : cw_D_shortenOver ∈ gl := gl_T (List.mem_append_right _ (List.mem_append_left _ (List.mem_of_getElem? (i := 162) rfl))) rfl
set_option maxRecDepth 100000 in
theorem kc_D_spreadLeastVertices : cw_D_spreadLeastVertices ∈ gl := gl_T (List.mem_append_right _ (List.mem_append_left _ (List.mem_of_getElem? (i := 183) rfl))) rfl
set_option maxRecDepth 100000 in
theorem kc_D_isValue : cw_D_isValue ∈ gl := gl_T (List.mem_append_left _ (List.mem_of_getElem? (i := 156) rfl)) rfl
set_option maxRecDepth 100000 in
theorem kc_D_requireRegister : cw_D_requireRegister ∈ gl := gl_T (List.mem_append_left _ (List.mem_of_getElem? (i := 61) rfl)) rfl
set_option maxRecDepth 100000 in
theorem kc_D_requireSemiring : cw_D_requireSemiring ∈ gl := gl_T (List.mem_append_left _ (List.mem_of_getElem? (i := 235) rfl)) rfl
set_option maxRecDepth 100000 in
theorem kc_D_requireOperands : cw_D_requireOperands ∈ gl := gl_T (List.mem_append_left _ (List.mem_of_getElem? (i := 232) rfl)) rfl
set_option maxRecDepth 100000 in
theorem kc_D_requireMask : cw_D_requireMask ∈ gl := gl_T (List.mem_append_left _ (List.mem_of_getElem? (i := 239) rfl)) rfl
set_option maxRecDepth 100000 in
theorem kc_D_requireHow : cw_D_requireHow ∈ gl := gl_T (List.mem_append_right _ (List.mem_append_left _ (List.mem_of_getElem? (i := 2) rfl))) rfl
set_option maxRecDepth 100000 in
theorem kc_D_requireSide : cw_D_requireSide ∈ gl := gl_T (List.mem_append_left _ (List.mem_of_getElem? (i := 133) rfl)) rfl
set_option maxRecDepth 100000 in
theorem kc_D_requirePlace : cw_D_requirePlace ∈ gl := gl_T (List.mem_append_left _ (List.mem_of_getElem? (i := 149) rfl)) rfl
set_option maxRecDepth 100000 in
theorem kc_D_requireValue : cw_D_requireValue ∈ gl := gl_T (List.mem_append_left _ (List.mem_of_getElem? (i := 153) rfl)) rfl
set_option maxRecDepth 100000 in
theorem kc_D_requireEntry : cw_D_requireEntry ∈ gl := gl_T (List.mem_append_left _ (List.mem_of_getElem? (i := 189) rfl)) rfl
set_option maxRecDepth 100000 in
theorem kc_D_requireFit : cw_D_requireFit ∈ gl := gl_T (List.mem_append_right _ (List.mem_append_left _ (List.mem_of_getElem? (i := 6) rfl))) rfl
set_option maxRecDepth 100000 in
theorem kc_D_requireSameShape : cw_D_requireSameShape ∈ gl := gl_T (List.mem_append_right _ (List.mem_append_left _ (List.mem_of_getElem? (i := 95) rfl))) rfl
set_option maxRecDepth 100000 in
theorem kc_D_requireGraph : cw_D_requireGraph ∈ gl := gl_T (List.mem_append_right _ (List.mem_append_left _ (List.mem_of_getElem? (i := 137) rfl))) rfl
set_option maxRecDepth 100000 in
theorem kc_D_requireVertex : cw_D_requireVertex ∈ gl := gl_T (List.mem_append_right _ (List.mem_append_left _ (List.mem_of_getElem? (i := 140) rfl))) rfl
set_option maxRecDepth 100000 in
theorem kc_D_requireLengths : cw_D_requireLengths ∈ gl := gl_T (List.mem_append_right _ (List.mem_append_left _ (List.mem_of_getElem? (i := 157) rfl))) rfl
set_option maxRecDepth 100000 in
theorem kc_D_requireNoCircleBelowZero : cw_D_requireNoCircleBelowZero ∈ gl := gl_T (List.mem_append_right _ (List.mem_append_left _ (List.mem_of_getElem? (i := 165) rfl))) rfl
set_option maxRecDepth 100000 in
theorem kc_R_init : cw_R_init ∈ gl := gl_T (List.mem_append_right _ (List.mem_append_left _ (List.mem_of_getElem? (i := 188) rfl))) rfl
set_option maxRecDepth 100000 in
theorem kc_R_thrown : cw_R_thrown ∈ gl := gl_T (List.mem_append_right _ (List.mem_append_left _ (List.mem_of_getElem? (i := 225) rfl))) rfl
set_option maxRecDepth 100000 in
theorem kc_R_isRegister : cw_R_isRegister ∈ gl := gl_T (List.mem_append_right _ (List.mem_append_left _ (List.mem_of_getElem? (i := 232) rfl))) rfl
set_option maxRecDepth 100000 in
theorem kc_R_isRing : cw_R_isRing ∈ gl := gl_T (List.mem_append_right _ (List.mem_append_right _ (List.mem_of_getElem? (i := 28) rfl))) rfl
set_option maxRecDepth 100000 in
theorem kc_R_isValue : cw_R_isValue ∈ gl := gl_T (List.mem_append_right _ (List.mem_append_right _ (List.mem_of_getElem? (i := 3) rfl))) rfl
set_option maxRecDepth 100000 in
theorem kc_R_isPlace : cw_R_isPlace ∈ gl := gl_T (List.mem_append_right _ (List.mem_append_right _ (List.mem_of_getElem? (i := 0) rfl))) rfl
set_option maxRecDepth 100000 in
theorem kc_R_shape : cw_R_shape ∈ gl := gl_T (List.mem_append_right _ (List.mem_append_left _ (List.mem_of_getElem? (i := 229) rfl))) rfl
set_option maxRecDepth 100000 in
theorem kc_R_put : cw_R_put ∈ gl := gl_T (List.mem_append_right _ (List.mem_append_left _ (List.mem_of_getElem? (i := 236) rfl))) rfl
set_option maxRecDepth 100000 in
theorem kc_R_drop : cw_R_drop ∈ gl := gl_T (List.mem_append_right _ (List.mem_append_right _ (List.mem_of_getElem? (i := 9) rfl))) rfl
set_option maxRecDepth 100000 in
theorem kc_R_at : cw_R_at ∈ gl := gl_T (List.mem_append_right _ (List.mem_append_right _ (List.mem_of_getElem? (i := 13) rfl))) rfl
set_option maxRecDepth 100000 in
theorem kc_R_entries : cw_R_entries ∈ gl := gl_T (List.mem_append_right _ (List.mem_append_right _ (List.mem_of_getElem? (i := 21) rfl))) rfl
set_option maxRecDepth 100000 in
theorem kc_R_size : cw_R_size ∈ gl := gl_T (List.mem_append_right _ (List.mem_append_right _ (List.mem_of_getElem? (i := 17) rfl))) rfl
set_option maxRecDepth 100000 in
theorem kc_R_sum : cw_R_sum ∈ gl := gl_T (List.mem_append_right _ (List.mem_append_right _ (List.mem_of_getElem? (i := 47) rfl))) rfl
set_option maxRecDepth 100000 in
theorem kc_R_size0 : cw_R_size0 ∈ gl := gl_T (List.mem_append_right _ (List.mem_append_right _ (List.mem_of_getElem? (i := 43) rfl))) rfl
set_option maxRecDepth 100000 in
theorem kc_R_product : cw_R_product ∈ gl := gl_T (List.mem_append_right _ (List.mem_append_right _ (List.mem_of_getElem? (i := 40) rfl))) rfl
set_option maxRecDepth 100000 in
theorem kc_R_begin : cw_R_begin ∈ gl := gl_T (List.mem_append_right _ (List.mem_append_right _ (List.mem_of_getElem? (i := 32) rfl))) rfl
set_option maxRecDepth 100000 in
theorem kc_R_make : cw_R_make ∈ gl := gl_T (List.mem_append_right _ (List.mem_append_right _ (List.mem_of_getElem? (i := 51) rfl))) rfl
set_option maxRecDepth 100000 in
theorem kc_R_finish : cw_R_finish ∈ gl := gl_T (List.mem_append_right _ (List.mem_append_right _ (List.mem_of_getElem? (i := 59) rfl))) rfl
set_option maxRecDepth 100000 in
theorem kc_R_cross : cw_R_cross ∈ gl := gl_T (List.mem_append_right _ (List.mem_append_right _ (List.mem_of_getElem? (i := 36) rfl))) rfl
set_option maxRecDepth 100000 in
theorem kc_R_join : cw_R_join ∈ gl := gl_T (List.mem_append_right _ (List.mem_append_right _ (List.mem_of_getElem? (i := 55) rfl))) rfl
set_option maxRecDepth 100000 in
theorem kc_R_multiply : cw_R_multiply ∈ gl := gl_T (List.mem_append_right _ (List.mem_append_right _ (List.mem_of_getElem? (i := 25) rfl))) rfl
set_option maxRecDepth 100000 in
theorem kc_R_pair : cw_R_pair ∈ gl := gl_T (List.mem_append_right _ (List.mem_append_right _ (List.mem_of_getElem? (i := 67) rfl))) rfl
set_option maxRecDepth 100000 in
theorem kc_R_add : cw_R_add ∈ gl := gl_T (List.mem_append_right _ (List.mem_append_right _ (List.mem_of_getElem? (i := 63) rfl))) rfl
set_option maxRecDepth 100000 in
theorem kc_R_each : cw_R_each ∈ gl := gl_T (List.mem_append_right _ (List.mem_append_right _ (List.mem_of_getElem? (i := 71) rfl))) rfl
set_option maxRecDepth 100000 in
theorem kc_R_transpose : cw_R_transpose ∈ gl := gl_T (List.mem_append_right _ (List.mem_append_right _ (List.mem_of_getElem? (i := 75) rfl))) rfl
set_option maxRecDepth 100000 in
theorem kc_R_chosen : cw_R_chosen ∈ gl := gl_T (List.mem_append_right _ (List.mem_append_right _ (List.mem_of_getElem? (i := 82) rfl))) rfl
set_option maxRecDepth 100000 in
theorem kc_R_select : cw_R_select ∈ gl := gl_T (List.mem_append_right _ (List.mem_append_right _ (List.mem_of_getElem? (i := 79) rfl))) rfl
set_option maxRecDepth 100000 in
theorem kc_R_reduce : cw_R_reduce ∈ gl := gl_T (List.mem_append_right _ (List.mem_append_right _ (List.mem_of_getElem? (i := 86) rfl))) rfl
set_option maxRecDepth 100000 in
theorem kc_R_isSquare : cw_R_isSquare ∈ gl := gl_T (List.mem_append_right _ (List.mem_append_right _ (List.mem_of_getElem? (i := 94) rfl))) rfl
set_option maxRecDepth 100000 in
theorem kc_R_levels : cw_R_levels ∈ gl := gl_T (List.mem_append_right _ (List.mem_append_right _ (List.mem_of_getElem? (i := 90) rfl))) rfl
set_option maxRecDepth 100000 in
theorem kc_R_relax : cw_R_relax ∈ gl := gl_T (List.mem_append_right _ (List.mem_append_right _ (List.mem_of_getElem? (i := 104) rfl))) rfl
set_option maxRecDepth 100000 in
theorem kc_R_paths : cw_R_paths ∈ gl := gl_T (List.mem_append_right _ (List.mem_append_right _ (List.mem_of_getElem? (i := 98) rfl))) rfl
set_option maxRecDepth 100000 in
theorem kc_R_triangles : cw_R_triangles ∈ gl := gl_T (List.mem_append_right _ (List.mem_append_right _ (List.mem_of_getElem? (i := 108) rfl))) rfl
set_option maxRecDepth 100000 in
theorem kc_R_components : cw_R_components ∈ gl := gl_T (List.mem_append_right _ (List.mem_append_right _ (List.mem_of_getElem? (i := 112) rfl))) rfl
set_option maxRecDepth 100000 in
theorem kc_M_init : cw_M_init ∈ gl := gl_T (List.mem_append_left _ (List.mem_of_getElem? (i := 25) rfl)) rfl
set_option maxRecDepth 100000 in
theorem kc_M_clear : cw_M_clear ∈ gl := gl_T (List.mem_append_left _ (List.mem_of_getElem? (i := 138) rfl)) rfl
set_option maxRecDepth 100000 in
theorem kc_M_isShaped : cw_M_isShaped ∈ gl := gl_T (List.mem_append_right _ (List.mem_append_left _ (List.mem_of_getElem? (i := 26) rfl))) rfl
set_option maxRecDepth 100000 in
theorem kc_M_has : cw_M_has ∈ gl := gl_T (List.mem_append_left _ (List.mem_of_getElem? (i := 174) rfl)) rfl
set_option maxRecDepth 100000 in
theorem kc_M_value : cw_M_value ∈ gl := gl_T (List.mem_append_left _ (List.mem_of_getElem? (i := 209) rfl)) rfl
set_option maxRecDepth 100000 in
theorem kc_M_enter : cw_M_enter ∈ gl := gl_T (List.mem_append_left _ (List.mem_of_getElem? (i := 163) rfl)) rfl
set_option maxRecDepth 100000 in
theorem kc_M_remove : cw_M_remove ∈ gl := gl_T (List.mem_append_left _ (List.mem_of_getElem? (i := 178) rfl)) rfl
set_option maxRecDepth 100000 in
theorem kc_M_count : cw_M_count ∈ gl := gl_T (List.mem_append_left _ (List.mem_of_getElem? (i := 220) rfl)) rfl
set_option maxRecDepth 100000 in
theorem kc_L_shape : cw_L_shape ∈ gl := gl_T (List.mem_append_left _ (List.mem_of_getElem? (i := 53) rfl)) rfl
set_option maxRecDepth 100000 in
theorem kc_L_put : cw_L_put ∈ gl := gl_T (List.mem_append_left _ (List.mem_of_getElem? (i := 141) rfl)) rfl
set_option maxRecDepth 100000 in
theorem kc_L_drop : cw_L_drop ∈ gl := gl_T (List.mem_append_left _ (List.mem_of_getElem? (i := 166) rfl)) rfl
set_option maxRecDepth 100000 in
theorem kc_L_at : cw_L_at ∈ gl := gl_T (List.mem_append_left _ (List.mem_of_getElem? (i := 181) rfl)) rfl
set_option maxRecDepth 100000 in
theorem kc_L_size : cw_L_size ∈ gl := gl_T (List.mem_append_left _ (List.mem_of_getElem? (i := 212) rfl)) rfl
set_option maxRecDepth 100000 in
theorem kc_L_multiply : cw_L_multiply ∈ gl := gl_T (List.mem_append_left _ (List.mem_of_getElem? (i := 223) rfl)) rfl
set_option maxRecDepth 100000 in
theorem kc_L_add : cw_L_add ∈ gl := gl_T (List.mem_append_right _ (List.mem_append_left _ (List.mem_of_getElem? (i := 87) rfl))) rfl
set_option maxRecDepth 100000 in
theorem kc_L_each : cw_L_each ∈ gl := gl_T (List.mem_append_right _ (List.mem_append_left _ (List.mem_of_getElem? (i := 98) rfl))) rfl
set_option maxRecDepth 100000 in
theorem kc_L_transpose : cw_L_transpose ∈ gl := gl_T (List.mem_append_right _ (List.mem_append_left _ (List.mem_of_getElem? (i := 105) rfl))) rfl
set_option maxRecDepth 100000 in
theorem kc_L_select : cw_L_select ∈ gl := gl_T (List.mem_append_right _ (List.mem_append_left _ (List.mem_of_getElem? (i := 112) rfl))) rfl
set_option maxRecDepth 100000 in
theorem kc_L_reduce : cw_L_reduce ∈ gl := gl_T (List.mem_append_right _ (List.mem_append_left _ (List.mem_of_getElem? (i := 122) rfl))) rfl
set_option maxRecDepth 100000 in
theorem kc_L_levels : cw_L_levels ∈ gl := gl_T (List.mem_append_right _ (List.mem_append_left _ (List.mem_of_getElem? (i := 129) rfl))) rfl
set_option maxRecDepth 100000 in
theorem kc_L_paths : cw_L_paths ∈ gl := gl_T (List.mem_append_right _ (List.mem_append_left _ (List.mem_of_getElem? (i := 150) rfl))) rfl
set_option maxRecDepth 100000 in
theorem kc_L_triangles : cw_L_triangles ∈ gl := gl_T (List.mem_append_right _ (List.mem_append_left _ (List.mem_of_getElem? (i := 169) rfl))) rfl
set_option maxRecDepth 100000 in
theorem kc_L_components : cw_L_components ∈ gl := gl_T (List.mem_append_right _ (List.mem_append_left _ (List.mem_of_getElem? (i := 176) rfl))) rfl
theorem ki_L : Cond.initialized R_L ∈ gl := gl_T (List.mem_append_left _ (List.mem_of_getElem? (i := 0) (by decide +kernel))) rfl
theorem ki_D : Cond.initialized R_D ∈ gl := gl_T (List.mem_append_left _ (List.mem_of_getElem? (i := 1) (by decide +kernel))) rfl
theorem ki_M : Cond.initialized R_M ∈ gl := gl_T (List.mem_append_left _ (List.mem_of_getElem? (i := 2) (by decide +kernel))) rfl
theorem ki_R : Cond.initialized R_R ∈ gl := gl_T (List.mem_append_left _ (List.mem_of_getElem? (i := 3) (by decide +kernel))) rfl
theorem ki_Throwable : Cond.initialized "java/lang/Throwable" ∈ gl := gl_T (List.mem_append_left _ (List.mem_of_getElem? (i := 4) (by decide +kernel))) rfl
theorem ki_Exception : Cond.initialized "java/lang/Exception" ∈ gl := gl_T (List.mem_append_left _ (List.mem_of_getElem? (i := 5) (by decide +kernel))) rfl
theorem ki_RuntimeException : Cond.initialized "java/lang/RuntimeException" ∈ gl := gl_T (List.mem_append_left _ (List.mem_of_getElem? (i := 6) (by decide +kernel))) rfl
theorem ki_IllegalArgumentException : Cond.initialized "java/lang/IllegalArgumentException" ∈ gl := gl_T (List.mem_append_left _ (List.mem_of_getElem? (i := 7) (by decide +kernel))) rfl
theorem ki_NoSuchElementException : Cond.initialized "java/util/NoSuchElementException" ∈ gl := gl_T (List.mem_append_left _ (List.mem_of_getElem? (i := 8) (by decide +kernel))) rfl
theorem ki_IllegalStateException : Cond.initialized "java/lang/IllegalStateException" ∈ gl := gl_T (List.mem_append_left _ (List.mem_of_getElem? (i := 9) (by decide +kernel))) rfl
theorem ki_Math : Cond.initialized "java/lang/Math" ∈ gl := gl_T (List.mem_append_left _ (List.mem_of_getElem? (i := 10) (by decide +kernel))) rfl
theorem ki_UnsupportedOperationException : Cond.initialized "java/lang/UnsupportedOperationException" ∈ gl := gl_T (List.mem_append_left _ (List.mem_of_getElem? (i := 11) (by decide +kernel))) rfl
theorem kk_L_8 : Cond.classLink R_L 8 R_D ∈ gl := gl_T (List.mem_append_left _ (List.mem_of_getElem? (i := 12) (by decide +kernel))) rfl
theorem kn_D : Cond.instantiable R_D 2 ∈ gl := gl_T (List.mem_append_left _ (List.mem_of_getElem? (i := 13) (by decide +kernel))) rfl
theorem kl_L_73 : Cond.methodLink R_L 73 y_D_init ∈ gl := gl_T (List.mem_append_left _ (List.mem_of_getElem? (i := 14) (by decide +kernel))) rfl
theorem kin_D_init : Cond.instanceMethod y_D_init ∈ gl := gl_T (List.mem_append_left _ (List.mem_of_getElem? (i := 15) (by decide +kernel))) rfl
theorem kl_D_1 : Cond.methodLink R_D 1 ⟨"java/lang/Object", "<init>", "()V"⟩ ∈ gl := gl_T (List.mem_append_left _ (List.mem_of_getElem? (i := 17) (by decide +kernel))) rfl
theorem kk_D_9 : Cond.classLink R_D 9 R_M ∈ gl := gl_T (List.mem_append_left _ (List.mem_of_getElem? (i := 20) (by decide +kernel))) rfl
theorem kn_M : Cond.instantiable R_M 4 ∈ gl := gl_T (List.mem_append_left _ (List.mem_of_getElem? (i := 22) (by decide +kernel))) rfl
theorem kl_D_15 : Cond.methodLink R_D 15 y_M_init ∈ gl := gl_T (List.mem_append_left _ (List.mem_of_getElem? (i := 23) (by decide +kernel))) rfl
theorem kin_M_init : Cond.instanceMethod y_M_init ∈ gl := gl_T (List.mem_append_left _ (List.mem_of_getElem? (i := 24) (by decide +kernel))) rfl
theorem kl_M_3 : Cond.methodLink R_M 3 ⟨"java/lang/Object", "<init>", "()V"⟩ ∈ gl := gl_T (List.mem_append_left _ (List.mem_of_getElem? (i := 26) (by decide +kernel))) rfl
theorem kf_M_9 : Cond.fieldLink R_M 9 R_M "rows" "I" ∈ gl := gl_T (List.mem_append_left _ (List.mem_of_getElem? (i := 27) (by decide +kernel))) rfl
theorem kf_D_58 : Cond.fieldLink R_D 58 R_M "rows" "I" ∈ gl := gl_T (List.mem_append_left _ (List.mem_of_getElem? (i := 28) (by decide +kernel))) rfl
theorem kf_M_15 : Cond.fieldLink R_M 15 R_M "columns" "I" ∈ gl := gl_T (List.mem_append_left _ (List.mem_of_getElem? (i := 29) (by decide +kernel))) rfl
theorem kf_D_62 : Cond.fieldLink R_D 62 R_M "columns" "I" ∈ gl := gl_T (List.mem_append_left _ (List.mem_of_getElem? (i := 30) (by decide +kernel))) rfl
theorem kf_M_18 : Cond.fieldLink R_M 18 R_M "values" "[J" ∈ gl := gl_T (List.mem_append_left _ (List.mem_of_getElem? (i := 31) (by decide +kernel))) rfl
theorem kf_M_22 : Cond.fieldLink R_M 22 R_M "filled" "[Z" ∈ gl := gl_T (List.mem_append_left _ (List.mem_of_getElem? (i := 32) (by decide +kernel))) rfl
theorem kf_D_11 : Cond.fieldLink R_D 11 R_D "registers" "[LSemiringDesk$Matrix;" ∈ gl := gl_T (List.mem_append_left _ (List.mem_of_getElem? (i := 44) (by decide +kernel))) rfl
theorem kf_D_16 : Cond.fieldLink R_D 16 R_D "spare" "LSemiringDesk$Matrix;" ∈ gl := gl_T (List.mem_append_left _ (List.mem_of_getElem? (i := 45) (by decide +kernel))) rfl
theorem kl_L_77 : Cond.methodLink R_L 77 y_L_shape ∈ gl := gl_T (List.mem_append_left _ (List.mem_of_getElem? (i := 51) (by decide +kernel))) rfl
theorem kst_L_shape : Cond.static y_L_shape ∈ gl := gl_T (List.mem_append_left _ (List.mem_of_getElem? (i := 52) (by decide +kernel))) rfl
theorem kk_L_13 : Cond.classLink R_L 13 "java/lang/IllegalArgumentException" ∈ gl := gl_T (List.mem_append_left _ (List.mem_of_getElem? (i := 54) (by decide +kernel))) rfl
theorem kl_L_7 : Cond.methodLink R_L 7 y_D_shape ∈ gl := gl_T (List.mem_append_left _ (List.mem_of_getElem? (i := 55) (by decide +kernel))) rfl
theorem kin_D_shape : Cond.instanceMethod y_D_shape ∈ gl := gl_T (List.mem_append_left _ (List.mem_of_getElem? (i := 56) (by decide +kernel))) rfl
theorem kse_D_shape : Cond.selects R_D y_D_shape y_D_shape ∈ gl := gl_T (List.mem_append_left _ (List.mem_of_getElem? (i := 57) (by decide +kernel))) rfl
theorem kl_D_20 : Cond.methodLink R_D 20 y_D_requireRegister ∈ gl := gl_T (List.mem_append_left _ (List.mem_of_getElem? (i := 59) (by decide +kernel))) rfl
theorem kst_D_requireRegister : Cond.static y_D_requireRegister ∈ gl := gl_T (List.mem_append_left _ (List.mem_of_getElem? (i := 60) (by decide +kernel))) rfl
theorem kk_D_189 : Cond.classLink R_D 189 "java/lang/IllegalArgumentException" ∈ gl := gl_T (List.mem_append_left _ (List.mem_of_getElem? (i := 62) (by decide +kernel))) rfl
theorem kn_IllegalArgumentException : Cond.instantiable "java/lang/IllegalArgumentException" 6 ∈ gl := gl_T (List.mem_append_left _ (List.mem_of_getElem? (i := 63) (by decide +kernel))) rfl
theorem kca_IllegalArgumentException : Cond.castable "java/lang/IllegalArgumentException" "java/lang/IllegalArgumentException" ∈ gl := gl_T (List.mem_append_left _ (List.mem_of_getElem? (i := 64) (by decide +kernel))) rfl
theorem kn_Throwable : Cond.instantiable "java/lang/Throwable" 6 ∈ gl := gl_T (List.mem_append_left _ (List.mem_of_getElem? (i := 102) (by decide +kernel))) rfl
theorem kr_D_191 : Cond.stringRef R_D 191 "no such register" ∈ gl := gl_T (List.mem_append_left _ (List.mem_of_getElem? (i := 104) (by decide +kernel))) rfl
theorem kl_D_193 : Cond.methodLink R_D 193 ⟨"java/lang/IllegalArgumentException", "<init>", "(Ljava/lang/String;)V"⟩ ∈ gl := gl_T (List.mem_append_left _ (List.mem_of_getElem? (i := 105) (by decide +kernel))) rfl
theorem kl_D_24 : Cond.methodLink R_D 24 y_D_requireSide ∈ gl := gl_T (List.mem_append_left _ (List.mem_of_getElem? (i := 131) (by decide +kernel))) rfl
theorem kst_D_requireSide : Cond.static y_D_requireSide ∈ gl := gl_T (List.mem_append_left _ (List.mem_of_getElem? (i := 132) (by decide +kernel))) rfl
theorem kr_D_198 : Cond.stringRef R_D 198 "rows and columns are 1 to 8" ∈ gl := gl_T (List.mem_append_left _ (List.mem_of_getElem? (i := 134) (by decide +kernel))) rfl
theorem kl_D_27 : Cond.methodLink R_D 27 y_M_clear ∈ gl := gl_T (List.mem_append_left _ (List.mem_of_getElem? (i := 135) (by decide +kernel))) rfl
theorem kin_M_clear : Cond.instanceMethod y_M_clear ∈ gl := gl_T (List.mem_append_left _ (List.mem_of_getElem? (i := 136) (by decide +kernel))) rfl
theorem kse_M_clear : Cond.selects R_M y_M_clear y_M_clear ∈ gl := gl_T (List.mem_append_left _ (List.mem_of_getElem? (i := 137) (by decide +kernel))) rfl
theorem kl_L_89 : Cond.methodLink R_L 89 y_L_put ∈ gl := gl_T (List.mem_append_left _ (List.mem_of_getElem? (i := 139) (by decide +kernel))) rfl
theorem kst_L_put : Cond.static y_L_put ∈ gl := gl_T (List.mem_append_left _ (List.mem_of_getElem? (i := 140) (by decide +kernel))) rfl
theorem kl_L_15 : Cond.methodLink R_L 15 y_D_put ∈ gl := gl_T (List.mem_append_left _ (List.mem_of_getElem? (i := 142) (by decide +kernel))) rfl
theorem kin_D_put : Cond.instanceMethod y_D_put ∈ gl := gl_T (List.mem_append_left _ (List.mem_of_getElem? (i := 143) (by decide +kernel))) rfl
theorem kse_D_put : Cond.selects R_D y_D_put y_D_put ∈ gl := gl_T (List.mem_append_left _ (List.mem_of_getElem? (i := 144) (by decide +kernel))) rfl
theorem kl_D_31 : Cond.methodLink R_D 31 y_D_requirePlace ∈ gl := gl_T (List.mem_append_left _ (List.mem_of_getElem? (i := 146) (by decide +kernel))) rfl
theorem kin_D_requirePlace : Cond.instanceMethod y_D_requirePlace ∈ gl := gl_T (List.mem_append_left _ (List.mem_of_getElem? (i := 148) (by decide +kernel))) rfl
theorem kr_D_200 : Cond.stringRef R_D 200 "no such place" ∈ gl := gl_T (List.mem_append_left _ (List.mem_of_getElem? (i := 150) (by decide +kernel))) rfl
theorem kl_D_35 : Cond.methodLink R_D 35 y_D_requireValue ∈ gl := gl_T (List.mem_append_left _ (List.mem_of_getElem? (i := 151) (by decide +kernel))) rfl
theorem kst_D_requireValue : Cond.static y_D_requireValue ∈ gl := gl_T (List.mem_append_left _ (List.mem_of_getElem? (i := 152) (by decide +kernel))) rfl
theorem kl_D_164 : Cond.methodLink R_D 164 y_D_isValue ∈ gl := gl_T (List.mem_append_left _ (List.mem_of_getElem? (i := 154) (by decide +kernel))) rfl
theorem kst_D_isValue : Cond.static y_D_isValue ∈ gl := gl_T (List.mem_append_left _ (List.mem_of_getElem? (i := 155) (by decide +kernel))) rfl
theorem kq_D_187 : Cond.constantLong R_D 187 (-1000000000000) ∈ gl := gl_T (List.mem_append_left _ (List.mem_of_getElem? (i := 157) (by decide +kernel))) rfl
theorem kq_D_179 : Cond.constantLong R_D 179 1000000000000 ∈ gl := gl_T (List.mem_append_left _ (List.mem_of_getElem? (i := 158) (by decide +kernel))) rfl
theorem kr_D_202 : Cond.stringRef R_D 202 "the value is out of range" ∈ gl := gl_T (List.mem_append_left _ (List.mem_of_getElem? (i := 159) (by decide +kernel))) rfl
theorem kl_D_39 : Cond.methodLink R_D 39 y_M_enter ∈ gl := gl_T (List.mem_append_left _ (List.mem_of_getElem? (i := 160) (by decide +kernel))) rfl
theorem kin_M_enter : Cond.instanceMethod y_M_enter ∈ gl := gl_T (List.mem_append_left _ (List.mem_of_getElem? (i := 161) (by decide +kernel))) rfl
theorem kse_M_enter : Cond.selects R_M y_M_enter y_M_enter ∈ gl := gl_T (List.mem_append_left _ (List.mem_of_getElem? (i := 162) (by decide +kernel))) rfl
theorem kl_L_93 : Cond.methodLink R_L 93 y_L_drop ∈ gl := gl_T (List.mem_append_left _ (List.mem_of_getElem? (i := 164) (by decide +kernel))) rfl
theorem kst_L_drop : Cond.static y_L_drop ∈ gl := gl_T (List.mem_append_left _ (List.mem_of_getElem? (i := 165) (by decide +kernel))) rfl
theorem kl_L_19 : Cond.methodLink R_L 19 y_D_drop ∈ gl := gl_T (List.mem_append_left _ (List.mem_of_getElem? (i := 167) (by decide +kernel))) rfl
theorem kin_D_drop : Cond.instanceMethod y_D_drop ∈ gl := gl_T (List.mem_append_left _ (List.mem_of_getElem? (i := 168) (by decide +kernel))) rfl
theorem kse_D_drop : Cond.selects R_D y_D_drop y_D_drop ∈ gl := gl_T (List.mem_append_left _ (List.mem_of_getElem? (i := 169) (by decide +kernel))) rfl
theorem kl_D_43 : Cond.methodLink R_D 43 y_M_has ∈ gl := gl_T (List.mem_append_left _ (List.mem_of_getElem? (i := 171) (by decide +kernel))) rfl
theorem kin_M_has : Cond.instanceMethod y_M_has ∈ gl := gl_T (List.mem_append_left _ (List.mem_of_getElem? (i := 172) (by decide +kernel))) rfl
theorem kse_M_has : Cond.selects R_M y_M_has y_M_has ∈ gl := gl_T (List.mem_append_left _ (List.mem_of_getElem? (i := 173) (by decide +kernel))) rfl
theorem kl_D_47 : Cond.methodLink R_D 47 y_M_remove ∈ gl := gl_T (List.mem_append_left _ (List.mem_of_getElem? (i := 175) (by decide +kernel))) rfl
theorem kin_M_remove : Cond.instanceMethod y_M_remove ∈ gl := gl_T (List.mem_append_left _ (List.mem_of_getElem? (i := 176) (by decide +kernel))) rfl
theorem kse_M_remove : Cond.selects R_M y_M_remove y_M_remove ∈ gl := gl_T (List.mem_append_left _ (List.mem_of_getElem? (i := 177) (by decide +kernel))) rfl
theorem kl_L_97 : Cond.methodLink R_L 97 y_L_at ∈ gl := gl_T (List.mem_append_left _ (List.mem_of_getElem? (i := 179) (by decide +kernel))) rfl
theorem kst_L_at : Cond.static y_L_at ∈ gl := gl_T (List.mem_append_left _ (List.mem_of_getElem? (i := 180) (by decide +kernel))) rfl
theorem kk_L_27 : Cond.classLink R_L 27 "java/util/NoSuchElementException" ∈ gl := gl_T (List.mem_append_left _ (List.mem_of_getElem? (i := 182) (by decide +kernel))) rfl
theorem kl_L_23 : Cond.methodLink R_L 23 y_D_at ∈ gl := gl_T (List.mem_append_left _ (List.mem_of_getElem? (i := 183) (by decide +kernel))) rfl
theorem kin_D_at : Cond.instanceMethod y_D_at ∈ gl := gl_T (List.mem_append_left _ (List.mem_of_getElem? (i := 184) (by decide +kernel))) rfl
theorem kse_D_at : Cond.selects R_D y_D_at y_D_at ∈ gl := gl_T (List.mem_append_left _ (List.mem_of_getElem? (i := 185) (by decide +kernel))) rfl
theorem kl_D_50 : Cond.methodLink R_D 50 y_D_requireEntry ∈ gl := gl_T (List.mem_append_left _ (List.mem_of_getElem? (i := 187) (by decide +kernel))) rfl
theorem kst_D_requireEntry : Cond.static y_D_requireEntry ∈ gl := gl_T (List.mem_append_left _ (List.mem_of_getElem? (i := 188) (by decide +kernel))) rfl
theorem kk_D_204 : Cond.classLink R_D 204 "java/util/NoSuchElementException" ∈ gl := gl_T (List.mem_append_left _ (List.mem_of_getElem? (i := 190) (by decide +kernel))) rfl
theorem kn_NoSuchElementException : Cond.instantiable "java/util/NoSuchElementException" 6 ∈ gl := gl_T (List.mem_append_left _ (List.mem_of_getElem? (i := 191) (by decide +kernel))) rfl
theorem kca_NoSuchElementException : Cond.castable "java/util/NoSuchElementException" "java/util/NoSuchElementException" ∈ gl := gl_T (List.mem_append_left _ (List.mem_of_getElem? (i := 192) (by decide +kernel))) rfl
theorem kr_D_206 : Cond.stringRef R_D 206 "no entry" ∈ gl := gl_T (List.mem_append_left _ (List.mem_of_getElem? (i := 199) (by decide +kernel))) rfl
theorem kl_D_208 : Cond.methodLink R_D 208 ⟨"java/util/NoSuchElementException", "<init>", "(Ljava/lang/String;)V"⟩ ∈ gl := gl_T (List.mem_append_left _ (List.mem_of_getElem? (i := 200) (by decide +kernel))) rfl
theorem kl_D_54 : Cond.methodLink R_D 54 y_M_value ∈ gl := gl_T (List.mem_append_left _ (List.mem_of_getElem? (i := 206) (by decide +kernel))) rfl
theorem kin_M_value : Cond.instanceMethod y_M_value ∈ gl := gl_T (List.mem_append_left _ (List.mem_of_getElem? (i := 207) (by decide +kernel))) rfl
theorem kse_M_value : Cond.selects R_M y_M_value y_M_value ∈ gl := gl_T (List.mem_append_left _ (List.mem_of_getElem? (i := 208) (by decide +kernel))) rfl
theorem kl_L_100 : Cond.methodLink R_L 100 y_L_size ∈ gl := gl_T (List.mem_append_left _ (List.mem_of_getElem? (i := 210) (by decide +kernel))) rfl
theorem kst_L_size : Cond.static y_L_size ∈ gl := gl_T (List.mem_append_left _ (List.mem_of_getElem? (i := 211) (by decide +kernel))) rfl
theorem kl_L_29 : Cond.methodLink R_L 29 y_D_size ∈ gl := gl_T (List.mem_append_left _ (List.mem_of_getElem? (i := 213) (by decide +kernel))) rfl
theorem kin_D_size : Cond.instanceMethod y_D_size ∈ gl := gl_T (List.mem_append_left _ (List.mem_of_getElem? (i := 214) (by decide +kernel))) rfl
theorem kse_D_size : Cond.selects R_D y_D_size y_D_size ∈ gl := gl_T (List.mem_append_left _ (List.mem_of_getElem? (i := 215) (by decide +kernel))) rfl
theorem kl_D_65 : Cond.methodLink R_D 65 y_M_count ∈ gl := gl_T (List.mem_append_left _ (List.mem_of_getElem? (i := 217) (by decide +kernel))) rfl
theorem kin_M_count : Cond.instanceMethod y_M_count ∈ gl := gl_T (List.mem_append_left _ (List.mem_of_getElem? (i := 218) (by decide +kernel))) rfl
theorem kse_M_count : Cond.selects R_M y_M_count y_M_count ∈ gl := gl_T (List.mem_append_left _ (List.mem_of_getElem? (i := 219) (by decide +kernel))) rfl
theorem kl_L_104 : Cond.methodLink R_L 104 y_L_multiply ∈ gl := gl_T (List.mem_append_left _ (List.mem_of_getElem? (i := 221) (by decide +kernel))) rfl
theorem kst_L_multiply : Cond.static y_L_multiply ∈ gl := gl_T (List.mem_append_left _ (List.mem_of_getElem? (i := 222) (by decide +kernel))) rfl
theorem kk_L_37 : Cond.classLink R_L 37 "java/lang/IllegalStateException" ∈ gl := gl_T (List.mem_append_left _ (List.mem_of_getElem? (i := 224) (by decide +kernel))) rfl
theorem kk_L_39 : Cond.classLink R_L 39 "java/lang/UnsupportedOperationException" ∈ gl := gl_T (List.mem_append_left _ (List.mem_of_getElem? (i := 225) (by decide +kernel))) rfl
theorem kl_L_33 : Cond.methodLink R_L 33 y_D_multiply ∈ gl := gl_T (List.mem_append_left _ (List.mem_of_getElem? (i := 226) (by decide +kernel))) rfl
theorem kin_D_multiply : Cond.instanceMethod y_D_multiply ∈ gl := gl_T (List.mem_append_left _ (List.mem_of_getElem? (i := 227) (by decide +kernel))) rfl
theorem kse_D_multiply : Cond.selects R_D y_D_multiply y_D_multiply ∈ gl := gl_T (List.mem_append_left _ (List.mem_of_getElem? (i := 228) (by decide +kernel))) rfl
theorem kl_D_69 : Cond.methodLink R_D 69 y_D_requireOperands ∈ gl := gl_T (List.mem_append_left _ (List.mem_of_getElem? (i := 230) (by decide +kernel))) rfl
theorem kst_D_requireOperands : Cond.static y_D_requireOperands ∈ gl := gl_T (List.mem_append_left _ (List.mem_of_getElem? (i := 231) (by decide +kernel))) rfl
theorem kl_D_116 : Cond.methodLink R_D 116 y_D_requireSemiring ∈ gl := gl_T (List.mem_append_left _ (List.mem_of_getElem? (i := 233) (by decide +kernel))) rfl
theorem kst_D_requireSemiring : Cond.static y_D_requireSemiring ∈ gl := gl_T (List.mem_append_left _ (List.mem_of_getElem? (i := 234) (by decide +kernel))) rfl
theorem kr_D_194 : Cond.stringRef R_D 194 "no such semiring" ∈ gl := gl_T (List.mem_append_left _ (List.mem_of_getElem? (i := 236) (by decide +kernel))) rfl
theorem kl_D_73 : Cond.methodLink R_D 73 y_D_requireMask ∈ gl := gl_T (List.mem_append_left _ (List.mem_of_getElem? (i := 237) (by decide +kernel))) rfl
theorem kst_D_requireMask : Cond.static y_D_requireMask ∈ gl := gl_T (List.mem_append_left _ (List.mem_of_getElem? (i := 238) (by decide +kernel))) rfl
theorem kl_D_76 : Cond.methodLink R_D 76 y_D_requireHow ∈ gl := gl_T (List.mem_append_right _ (List.mem_append_left _ (List.mem_of_getElem? (i := 0) (by decide +kernel)))) rfl
theorem kst_D_requireHow : Cond.static y_D_requireHow ∈ gl := gl_T (List.mem_append_right _ (List.mem_append_left _ (List.mem_of_getElem? (i := 1) (by decide +kernel)))) rfl
theorem kr_D_196 : Cond.stringRef R_D 196 "no such how" ∈ gl := gl_T (List.mem_append_right _ (List.mem_append_left _ (List.mem_of_getElem? (i := 3) (by decide +kernel)))) rfl
theorem kl_D_79 : Cond.methodLink R_D 79 y_D_requireFit ∈ gl := gl_T (List.mem_append_right _ (List.mem_append_left _ (List.mem_of_getElem? (i := 4) (by decide +kernel)))) rfl
theorem kst_D_requireFit : Cond.static y_D_requireFit ∈ gl := gl_T (List.mem_append_right _ (List.mem_append_left _ (List.mem_of_getElem? (i := 5) (by decide +kernel)))) rfl
theorem kk_D_209 : Cond.classLink R_D 209 "java/lang/IllegalStateException" ∈ gl := gl_T (List.mem_append_right _ (List.mem_append_left _ (List.mem_of_getElem? (i := 7) (by decide +kernel)))) rfl
theorem kn_IllegalStateException : Cond.instantiable "java/lang/IllegalStateException" 6 ∈ gl := gl_T (List.mem_append_right _ (List.mem_append_left _ (List.mem_of_getElem? (i := 8) (by decide +kernel)))) rfl
theorem kca_IllegalStateException : Cond.castable "java/lang/IllegalStateException" "java/lang/IllegalStateException" ∈ gl := gl_T (List.mem_append_right _ (List.mem_append_left _ (List.mem_of_getElem? (i := 9) (by decide +kernel)))) rfl
theorem kr_D_211 : Cond.stringRef R_D 211 "rows and columns do not fit" ∈ gl := gl_T (List.mem_append_right _ (List.mem_append_left _ (List.mem_of_getElem? (i := 16) (by decide +kernel)))) rfl
theorem kl_D_213 : Cond.methodLink R_D 213 ⟨"java/lang/IllegalStateException", "<init>", "(Ljava/lang/String;)V"⟩ ∈ gl := gl_T (List.mem_append_right _ (List.mem_append_left _ (List.mem_of_getElem? (i := 17) (by decide +kernel)))) rfl
theorem kl_D_82 : Cond.methodLink R_D 82 y_M_isShaped ∈ gl := gl_T (List.mem_append_right _ (List.mem_append_left _ (List.mem_of_getElem? (i := 23) (by decide +kernel)))) rfl
theorem kin_M_isShaped : Cond.instanceMethod y_M_isShaped ∈ gl := gl_T (List.mem_append_right _ (List.mem_append_left _ (List.mem_of_getElem? (i := 24) (by decide +kernel)))) rfl
theorem kse_M_isShaped : Cond.selects R_M y_M_isShaped y_M_isShaped ∈ gl := gl_T (List.mem_append_right _ (List.mem_append_left _ (List.mem_of_getElem? (i := 25) (by decide +kernel)))) rfl
theorem kl_D_85 : Cond.methodLink R_D 85 y_D_blank ∈ gl := gl_T (List.mem_append_right _ (List.mem_append_left _ (List.mem_of_getElem? (i := 27) (by decide +kernel)))) rfl
theorem kin_D_blank : Cond.instanceMethod y_D_blank ∈ gl := gl_T (List.mem_append_right _ (List.mem_append_left _ (List.mem_of_getElem? (i := 29) (by decide +kernel)))) rfl
theorem kl_D_89 : Cond.methodLink R_D 89 y_D_gatherProducts ∈ gl := gl_T (List.mem_append_right _ (List.mem_append_left _ (List.mem_of_getElem? (i := 31) (by decide +kernel)))) rfl
theorem kst_D_gatherProducts : Cond.static y_D_gatherProducts ∈ gl := gl_T (List.mem_append_right _ (List.mem_append_left _ (List.mem_of_getElem? (i := 32) (by decide +kernel)))) rfl
theorem kl_D_108 : Cond.methodLink R_D 108 y_D_productOver ∈ gl := gl_T (List.mem_append_right _ (List.mem_append_left _ (List.mem_of_getElem? (i := 34) (by decide +kernel)))) rfl
theorem kst_D_productOver : Cond.static y_D_productOver ∈ gl := gl_T (List.mem_append_right _ (List.mem_append_left _ (List.mem_of_getElem? (i := 35) (by decide +kernel)))) rfl
theorem kl_D_161 : Cond.methodLink R_D 161 y_D_times ∈ gl := gl_T (List.mem_append_right _ (List.mem_append_left _ (List.mem_of_getElem? (i := 37) (by decide +kernel)))) rfl
theorem kst_D_times : Cond.static y_D_times ∈ gl := gl_T (List.mem_append_right _ (List.mem_append_left _ (List.mem_of_getElem? (i := 38) (by decide +kernel)))) rfl
theorem kl_D_175 : Cond.methodLink R_D 175 ⟨"java/lang/Math", "abs", "(J)J"⟩ ∈ gl := gl_T (List.mem_append_right _ (List.mem_append_left _ (List.mem_of_getElem? (i := 40) (by decide +kernel)))) rfl
theorem kst_java_lang_Math_abs : Cond.static ⟨"java/lang/Math", "abs", "(J)J"⟩ ∈ gl := gl_T (List.mem_append_right _ (List.mem_append_left _ (List.mem_of_getElem? (i := 41) (by decide +kernel)))) rfl
theorem kk_D_168 : Cond.classLink R_D 168 "java/lang/UnsupportedOperationException" ∈ gl := gl_T (List.mem_append_right _ (List.mem_append_left _ (List.mem_of_getElem? (i := 43) (by decide +kernel)))) rfl
theorem kn_UnsupportedOperationException : Cond.instantiable "java/lang/UnsupportedOperationException" 6 ∈ gl := gl_T (List.mem_append_right _ (List.mem_append_left _ (List.mem_of_getElem? (i := 44) (by decide +kernel)))) rfl
theorem kca_UnsupportedOperationException : Cond.castable "java/lang/UnsupportedOperationException" "java/lang/UnsupportedOperationException" ∈ gl := gl_T (List.mem_append_right _ (List.mem_append_left _ (List.mem_of_getElem? (i := 45) (by decide +kernel)))) rfl
theorem kr_D_181 : Cond.stringRef R_D 181 "a product is out of range" ∈ gl := gl_T (List.mem_append_right _ (List.mem_append_left _ (List.mem_of_getElem? (i := 52) (by decide +kernel)))) rfl
theorem kl_D_172 : Cond.methodLink R_D 172 ⟨"java/lang/UnsupportedOperationException", "<init>", "(Ljava/lang/String;)V"⟩ ∈ gl := gl_T (List.mem_append_right _ (List.mem_append_left _ (List.mem_of_getElem? (i := 53) (by decide +kernel)))) rfl
theorem kl_D_149 : Cond.methodLink R_D 149 y_D_plus ∈ gl := gl_T (List.mem_append_right _ (List.mem_append_left _ (List.mem_of_getElem? (i := 59) (by decide +kernel)))) rfl
theorem kst_D_plus : Cond.static y_D_plus ∈ gl := gl_T (List.mem_append_right _ (List.mem_append_left _ (List.mem_of_getElem? (i := 60) (by decide +kernel)))) rfl
theorem kr_D_170 : Cond.stringRef R_D 170 "a sum is out of range" ∈ gl := gl_T (List.mem_append_right _ (List.mem_append_left _ (List.mem_of_getElem? (i := 62) (by decide +kernel)))) rfl
theorem kl_D_153 : Cond.methodLink R_D 153 ⟨"java/lang/Math", "min", "(JJ)J"⟩ ∈ gl := gl_T (List.mem_append_right _ (List.mem_append_left _ (List.mem_of_getElem? (i := 63) (by decide +kernel)))) rfl
theorem kst_java_lang_Math_min : Cond.static ⟨"java/lang/Math", "min", "(JJ)J"⟩ ∈ gl := gl_T (List.mem_append_right _ (List.mem_append_left _ (List.mem_of_getElem? (i := 64) (by decide +kernel)))) rfl
theorem kl_D_119 : Cond.methodLink R_D 119 y_D_gather ∈ gl := gl_T (List.mem_append_right _ (List.mem_append_left _ (List.mem_of_getElem? (i := 66) (by decide +kernel)))) rfl
theorem kst_D_gather : Cond.static y_D_gather ∈ gl := gl_T (List.mem_append_right _ (List.mem_append_left _ (List.mem_of_getElem? (i := 67) (by decide +kernel)))) rfl
theorem kl_D_146 : Cond.methodLink R_D 146 y_D_sumOver ∈ gl := gl_T (List.mem_append_right _ (List.mem_append_left _ (List.mem_of_getElem? (i := 69) (by decide +kernel)))) rfl
theorem kst_D_sumOver : Cond.static y_D_sumOver ∈ gl := gl_T (List.mem_append_right _ (List.mem_append_left _ (List.mem_of_getElem? (i := 70) (by decide +kernel)))) rfl
theorem kl_D_158 : Cond.methodLink R_D 158 ⟨"java/lang/Math", "max", "(JJ)J"⟩ ∈ gl := gl_T (List.mem_append_right _ (List.mem_append_left _ (List.mem_of_getElem? (i := 72) (by decide +kernel)))) rfl
theorem kst_java_lang_Math_max : Cond.static ⟨"java/lang/Math", "max", "(JJ)J"⟩ ∈ gl := gl_T (List.mem_append_right _ (List.mem_append_left _ (List.mem_of_getElem? (i := 73) (by decide +kernel)))) rfl
theorem kl_D_93 : Cond.methodLink R_D 93 y_D_gatherAll ∈ gl := gl_T (List.mem_append_right _ (List.mem_append_left _ (List.mem_of_getElem? (i := 75) (by decide +kernel)))) rfl
theorem kst_D_gatherAll : Cond.static y_D_gatherAll ∈ gl := gl_T (List.mem_append_right _ (List.mem_append_left _ (List.mem_of_getElem? (i := 76) (by decide +kernel)))) rfl
theorem kl_D_97 : Cond.methodLink R_D 97 y_D_dropZeros ∈ gl := gl_T (List.mem_append_right _ (List.mem_append_left _ (List.mem_of_getElem? (i := 78) (by decide +kernel)))) rfl
theorem kst_D_dropZeros : Cond.static y_D_dropZeros ∈ gl := gl_T (List.mem_append_right _ (List.mem_append_left _ (List.mem_of_getElem? (i := 79) (by decide +kernel)))) rfl
theorem kl_D_101 : Cond.methodLink R_D 101 y_D_keep ∈ gl := gl_T (List.mem_append_right _ (List.mem_append_left _ (List.mem_of_getElem? (i := 81) (by decide +kernel)))) rfl
theorem kin_D_keep : Cond.instanceMethod y_D_keep ∈ gl := gl_T (List.mem_append_right _ (List.mem_append_left _ (List.mem_of_getElem? (i := 83) (by decide +kernel)))) rfl
theorem kl_L_108 : Cond.methodLink R_L 108 y_L_add ∈ gl := gl_T (List.mem_append_right _ (List.mem_append_left _ (List.mem_of_getElem? (i := 85) (by decide +kernel)))) rfl
theorem kst_L_add : Cond.static y_L_add ∈ gl := gl_T (List.mem_append_right _ (List.mem_append_left _ (List.mem_of_getElem? (i := 86) (by decide +kernel)))) rfl
theorem kl_L_41 : Cond.methodLink R_L 41 y_D_add ∈ gl := gl_T (List.mem_append_right _ (List.mem_append_left _ (List.mem_of_getElem? (i := 88) (by decide +kernel)))) rfl
theorem kin_D_add : Cond.instanceMethod y_D_add ∈ gl := gl_T (List.mem_append_right _ (List.mem_append_left _ (List.mem_of_getElem? (i := 89) (by decide +kernel)))) rfl
theorem kse_D_add : Cond.selects R_D y_D_add y_D_add ∈ gl := gl_T (List.mem_append_right _ (List.mem_append_left _ (List.mem_of_getElem? (i := 90) (by decide +kernel)))) rfl
theorem kl_D_105 : Cond.methodLink R_D 105 y_D_requireSameShape ∈ gl := gl_T (List.mem_append_right _ (List.mem_append_left _ (List.mem_of_getElem? (i := 92) (by decide +kernel)))) rfl
theorem kin_D_requireSameShape : Cond.instanceMethod y_D_requireSameShape ∈ gl := gl_T (List.mem_append_right _ (List.mem_append_left _ (List.mem_of_getElem? (i := 94) (by decide +kernel)))) rfl
theorem kl_L_112 : Cond.methodLink R_L 112 y_L_each ∈ gl := gl_T (List.mem_append_right _ (List.mem_append_left _ (List.mem_of_getElem? (i := 96) (by decide +kernel)))) rfl
theorem kst_L_each : Cond.static y_L_each ∈ gl := gl_T (List.mem_append_right _ (List.mem_append_left _ (List.mem_of_getElem? (i := 97) (by decide +kernel)))) rfl
theorem kl_L_45 : Cond.methodLink R_L 45 y_D_each ∈ gl := gl_T (List.mem_append_right _ (List.mem_append_left _ (List.mem_of_getElem? (i := 99) (by decide +kernel)))) rfl
theorem kin_D_each : Cond.instanceMethod y_D_each ∈ gl := gl_T (List.mem_append_right _ (List.mem_append_left _ (List.mem_of_getElem? (i := 100) (by decide +kernel)))) rfl
theorem kse_D_each : Cond.selects R_D y_D_each y_D_each ∈ gl := gl_T (List.mem_append_right _ (List.mem_append_left _ (List.mem_of_getElem? (i := 101) (by decide +kernel)))) rfl
theorem kl_L_115 : Cond.methodLink R_L 115 y_L_transpose ∈ gl := gl_T (List.mem_append_right _ (List.mem_append_left _ (List.mem_of_getElem? (i := 103) (by decide +kernel)))) rfl
theorem kst_L_transpose : Cond.static y_L_transpose ∈ gl := gl_T (List.mem_append_right _ (List.mem_append_left _ (List.mem_of_getElem? (i := 104) (by decide +kernel)))) rfl
theorem kl_L_48 : Cond.methodLink R_L 48 y_D_transpose ∈ gl := gl_T (List.mem_append_right _ (List.mem_append_left _ (List.mem_of_getElem? (i := 106) (by decide +kernel)))) rfl
theorem kin_D_transpose : Cond.instanceMethod y_D_transpose ∈ gl := gl_T (List.mem_append_right _ (List.mem_append_left _ (List.mem_of_getElem? (i := 107) (by decide +kernel)))) rfl
theorem kse_D_transpose : Cond.selects R_D y_D_transpose y_D_transpose ∈ gl := gl_T (List.mem_append_right _ (List.mem_append_left _ (List.mem_of_getElem? (i := 108) (by decide +kernel)))) rfl
theorem kl_L_119 : Cond.methodLink R_L 119 y_L_select ∈ gl := gl_T (List.mem_append_right _ (List.mem_append_left _ (List.mem_of_getElem? (i := 110) (by decide +kernel)))) rfl
theorem kst_L_select : Cond.static y_L_select ∈ gl := gl_T (List.mem_append_right _ (List.mem_append_left _ (List.mem_of_getElem? (i := 111) (by decide +kernel)))) rfl
theorem kl_L_52 : Cond.methodLink R_L 52 y_D_select ∈ gl := gl_T (List.mem_append_right _ (List.mem_append_left _ (List.mem_of_getElem? (i := 113) (by decide +kernel)))) rfl
theorem kin_D_select : Cond.instanceMethod y_D_select ∈ gl := gl_T (List.mem_append_right _ (List.mem_append_left _ (List.mem_of_getElem? (i := 114) (by decide +kernel)))) rfl
theorem kse_D_select : Cond.selects R_D y_D_select y_D_select ∈ gl := gl_T (List.mem_append_right _ (List.mem_append_left _ (List.mem_of_getElem? (i := 115) (by decide +kernel)))) rfl
theorem kl_D_112 : Cond.methodLink R_D 112 y_D_isSelected ∈ gl := gl_T (List.mem_append_right _ (List.mem_append_left _ (List.mem_of_getElem? (i := 117) (by decide +kernel)))) rfl
theorem kst_D_isSelected : Cond.static y_D_isSelected ∈ gl := gl_T (List.mem_append_right _ (List.mem_append_left _ (List.mem_of_getElem? (i := 118) (by decide +kernel)))) rfl
theorem kl_L_123 : Cond.methodLink R_L 123 y_L_reduce ∈ gl := gl_T (List.mem_append_right _ (List.mem_append_left _ (List.mem_of_getElem? (i := 120) (by decide +kernel)))) rfl
theorem kst_L_reduce : Cond.static y_L_reduce ∈ gl := gl_T (List.mem_append_right _ (List.mem_append_left _ (List.mem_of_getElem? (i := 121) (by decide +kernel)))) rfl
theorem kl_L_56 : Cond.methodLink R_L 56 y_D_reduce ∈ gl := gl_T (List.mem_append_right _ (List.mem_append_left _ (List.mem_of_getElem? (i := 123) (by decide +kernel)))) rfl
theorem kin_D_reduce : Cond.instanceMethod y_D_reduce ∈ gl := gl_T (List.mem_append_right _ (List.mem_append_left _ (List.mem_of_getElem? (i := 124) (by decide +kernel)))) rfl
theorem kse_D_reduce : Cond.selects R_D y_D_reduce y_D_reduce ∈ gl := gl_T (List.mem_append_right _ (List.mem_append_left _ (List.mem_of_getElem? (i := 125) (by decide +kernel)))) rfl
theorem kl_L_126 : Cond.methodLink R_L 126 y_L_levels ∈ gl := gl_T (List.mem_append_right _ (List.mem_append_left _ (List.mem_of_getElem? (i := 127) (by decide +kernel)))) rfl
theorem kst_L_levels : Cond.static y_L_levels ∈ gl := gl_T (List.mem_append_right _ (List.mem_append_left _ (List.mem_of_getElem? (i := 128) (by decide +kernel)))) rfl
theorem kl_L_60 : Cond.methodLink R_L 60 y_D_levels ∈ gl := gl_T (List.mem_append_right _ (List.mem_append_left _ (List.mem_of_getElem? (i := 130) (by decide +kernel)))) rfl
theorem kin_D_levels : Cond.instanceMethod y_D_levels ∈ gl := gl_T (List.mem_append_right _ (List.mem_append_left _ (List.mem_of_getElem? (i := 131) (by decide +kernel)))) rfl
theorem kse_D_levels : Cond.selects R_D y_D_levels y_D_levels ∈ gl := gl_T (List.mem_append_right _ (List.mem_append_left _ (List.mem_of_getElem? (i := 132) (by decide +kernel)))) rfl
theorem kl_D_123 : Cond.methodLink R_D 123 y_D_requireGraph ∈ gl := gl_T (List.mem_append_right _ (List.mem_append_left _ (List.mem_of_getElem? (i := 134) (by decide +kernel)))) rfl
theorem kin_D_requireGraph : Cond.instanceMethod y_D_requireGraph ∈ gl := gl_T (List.mem_append_right _ (List.mem_append_left _ (List.mem_of_getElem? (i := 136) (by decide +kernel)))) rfl
theorem kl_D_126 : Cond.methodLink R_D 126 y_D_requireVertex ∈ gl := gl_T (List.mem_append_right _ (List.mem_append_left _ (List.mem_of_getElem? (i := 138) (by decide +kernel)))) rfl
theorem kst_D_requireVertex : Cond.static y_D_requireVertex ∈ gl := gl_T (List.mem_append_right _ (List.mem_append_left _ (List.mem_of_getElem? (i := 139) (by decide +kernel)))) rfl
theorem kr_D_214 : Cond.stringRef R_D 214 "no such vertex" ∈ gl := gl_T (List.mem_append_right _ (List.mem_append_left _ (List.mem_of_getElem? (i := 141) (by decide +kernel)))) rfl
theorem kl_D_129 : Cond.methodLink R_D 129 y_D_enterNextLevel ∈ gl := gl_T (List.mem_append_right _ (List.mem_append_left _ (List.mem_of_getElem? (i := 142) (by decide +kernel)))) rfl
theorem kst_D_enterNextLevel : Cond.static y_D_enterNextLevel ∈ gl := gl_T (List.mem_append_right _ (List.mem_append_left _ (List.mem_of_getElem? (i := 143) (by decide +kernel)))) rfl
theorem kl_D_183 : Cond.methodLink R_D 183 y_D_enterNeighbours ∈ gl := gl_T (List.mem_append_right _ (List.mem_append_left _ (List.mem_of_getElem? (i := 145) (by decide +kernel)))) rfl
theorem kst_D_enterNeighbours : Cond.static y_D_enterNeighbours ∈ gl := gl_T (List.mem_append_right _ (List.mem_append_left _ (List.mem_of_getElem? (i := 146) (by decide +kernel)))) rfl
theorem kl_L_129 : Cond.methodLink R_L 129 y_L_paths ∈ gl := gl_T (List.mem_append_right _ (List.mem_append_left _ (List.mem_of_getElem? (i := 148) (by decide +kernel)))) rfl
theorem kst_L_paths : Cond.static y_L_paths ∈ gl := gl_T (List.mem_append_right _ (List.mem_append_left _ (List.mem_of_getElem? (i := 149) (by decide +kernel)))) rfl
theorem kl_L_64 : Cond.methodLink R_L 64 y_D_paths ∈ gl := gl_T (List.mem_append_right _ (List.mem_append_left _ (List.mem_of_getElem? (i := 151) (by decide +kernel)))) rfl
theorem kin_D_paths : Cond.instanceMethod y_D_paths ∈ gl := gl_T (List.mem_append_right _ (List.mem_append_left _ (List.mem_of_getElem? (i := 152) (by decide +kernel)))) rfl
theorem kse_D_paths : Cond.selects R_D y_D_paths y_D_paths ∈ gl := gl_T (List.mem_append_right _ (List.mem_append_left _ (List.mem_of_getElem? (i := 153) (by decide +kernel)))) rfl
theorem kl_D_132 : Cond.methodLink R_D 132 y_D_requireLengths ∈ gl := gl_T (List.mem_append_right _ (List.mem_append_left _ (List.mem_of_getElem? (i := 155) (by decide +kernel)))) rfl
theorem kst_D_requireLengths : Cond.static y_D_requireLengths ∈ gl := gl_T (List.mem_append_right _ (List.mem_append_left _ (List.mem_of_getElem? (i := 156) (by decide +kernel)))) rfl
theorem kq_D_216 : Cond.constantLong R_D 216 1000000000 ∈ gl := gl_T (List.mem_append_right _ (List.mem_append_left _ (List.mem_of_getElem? (i := 158) (by decide +kernel)))) rfl
theorem kr_D_218 : Cond.stringRef R_D 218 "a length is out of range" ∈ gl := gl_T (List.mem_append_right _ (List.mem_append_left _ (List.mem_of_getElem? (i := 159) (by decide +kernel)))) rfl
theorem kl_D_136 : Cond.methodLink R_D 136 y_D_shortenOver ∈ gl := gl_T (List.mem_append_right _ (List.mem_append_left _ (List.mem_of_getElem? (i := 160) (by decide +kernel)))) rfl
theorem kst_D_shortenOver : Cond.static y_D_shortenOver ∈ gl := gl_T (List.mem_append_right _ (List.mem_append_left _ (List.mem_of_getElem? (i := 161) (by decide +kernel)))) rfl
theorem kl_D_139 : Cond.methodLink R_D 139 y_D_requireNoCircleBelowZero ∈ gl := gl_T (List.mem_append_right _ (List.mem_append_left _ (List.mem_of_getElem? (i := 163) (by decide +kernel)))) rfl
theorem kst_D_requireNoCircleBelowZero : Cond.static y_D_requireNoCircleBelowZero ∈ gl := gl_T (List.mem_append_right _ (List.mem_append_left _ (List.mem_of_getElem? (i := 164) (by decide +kernel)))) rfl
theorem kr_D_220 : Cond.stringRef R_D 220 "a circle is shorter than 0" ∈ gl := gl_T (List.mem_append_right _ (List.mem_append_left _ (List.mem_of_getElem? (i := 166) (by decide +kernel)))) rfl
theorem kl_L_132 : Cond.methodLink R_L 132 y_L_triangles ∈ gl := gl_T (List.mem_append_right _ (List.mem_append_left _ (List.mem_of_getElem? (i := 167) (by decide +kernel)))) rfl
theorem kst_L_triangles : Cond.static y_L_triangles ∈ gl := gl_T (List.mem_append_right _ (List.mem_append_left _ (List.mem_of_getElem? (i := 168) (by decide +kernel)))) rfl
theorem kl_L_67 : Cond.methodLink R_L 67 y_D_triangles ∈ gl := gl_T (List.mem_append_right _ (List.mem_append_left _ (List.mem_of_getElem? (i := 170) (by decide +kernel)))) rfl
theorem kin_D_triangles : Cond.instanceMethod y_D_triangles ∈ gl := gl_T (List.mem_append_right _ (List.mem_append_left _ (List.mem_of_getElem? (i := 171) (by decide +kernel)))) rfl
theorem kse_D_triangles : Cond.selects R_D y_D_triangles y_D_triangles ∈ gl := gl_T (List.mem_append_right _ (List.mem_append_left _ (List.mem_of_getElem? (i := 172) (by decide +kernel)))) rfl
theorem kl_L_135 : Cond.methodLink R_L 135 y_L_components ∈ gl := gl_T (List.mem_append_right _ (List.mem_append_left _ (List.mem_of_getElem? (i := 174) (by decide +kernel)))) rfl
theorem kst_L_components : Cond.static y_L_components ∈ gl := gl_T (List.mem_append_right _ (List.mem_append_left _ (List.mem_of_getElem? (i := 175) (by decide +kernel)))) rfl
theorem kl_L_70 : Cond.methodLink R_L 70 y_D_components ∈ gl := gl_T (List.mem_append_right _ (List.mem_append_left _ (List.mem_of_getElem? (i := 177) (by decide +kernel)))) rfl
theorem kin_D_components : Cond.instanceMethod y_D_components ∈ gl := gl_T (List.mem_append_right _ (List.mem_append_left _ (List.mem_of_getElem? (i := 178) (by decide +kernel)))) rfl
theorem kse_D_components : Cond.selects R_D y_D_components y_D_components ∈ gl := gl_T (List.mem_append_right _ (List.mem_append_left _ (List.mem_of_getElem? (i := 179) (by decide +kernel)))) rfl
theorem kl_D_142 : Cond.methodLink R_D 142 y_D_spreadLeastVertices ∈ gl := gl_T (List.mem_append_right _ (List.mem_append_left _ (List.mem_of_getElem? (i := 181) (by decide +kernel)))) rfl
theorem kst_D_spreadLeastVertices : Cond.static y_D_spreadLeastVertices ∈ gl := gl_T (List.mem_append_right _ (List.mem_append_left _ (List.mem_of_getElem? (i := 182) (by decide +kernel)))) rfl
theorem kk_L_74 : Cond.classLink R_L 74 R_R ∈ gl := gl_T (List.mem_append_right _ (List.mem_append_left _ (List.mem_of_getElem? (i := 184) (by decide +kernel)))) rfl
theorem kn_R : Cond.instantiable R_R 10 ∈ gl := gl_T (List.mem_append_right _ (List.mem_append_left _ (List.mem_of_getElem? (i := 185) (by decide +kernel)))) rfl
theorem kl_L_76 : Cond.methodLink R_L 76 y_R_init ∈ gl := gl_T (List.mem_append_right _ (List.mem_append_left _ (List.mem_of_getElem? (i := 186) (by decide +kernel)))) rfl
theorem kin_R_init : Cond.instanceMethod y_R_init ∈ gl := gl_T (List.mem_append_right _ (List.mem_append_left _ (List.mem_of_getElem? (i := 187) (by decide +kernel)))) rfl
theorem kl_R_1 : Cond.methodLink R_R 1 ⟨"java/lang/Object", "<init>", "()V"⟩ ∈ gl := gl_T (List.mem_append_right _ (List.mem_append_left _ (List.mem_of_getElem? (i := 189) (by decide +kernel)))) rfl
theorem kf_R_30 : Cond.fieldLink R_R 30 R_R "thrown" "I" ∈ gl := gl_T (List.mem_append_right _ (List.mem_append_left _ (List.mem_of_getElem? (i := 190) (by decide +kernel)))) rfl
theorem kf_R_7 : Cond.fieldLink R_R 7 R_R "rows" "[I" ∈ gl := gl_T (List.mem_append_right _ (List.mem_append_left _ (List.mem_of_getElem? (i := 191) (by decide +kernel)))) rfl
theorem kf_R_13 : Cond.fieldLink R_R 13 R_R "columns" "[I" ∈ gl := gl_T (List.mem_append_right _ (List.mem_append_left _ (List.mem_of_getElem? (i := 192) (by decide +kernel)))) rfl
theorem kf_R_16 : Cond.fieldLink R_R 16 R_R "has" "[Z" ∈ gl := gl_T (List.mem_append_right _ (List.mem_append_left _ (List.mem_of_getElem? (i := 193) (by decide +kernel)))) rfl
theorem kf_R_20 : Cond.fieldLink R_R 20 R_R "value" "[J" ∈ gl := gl_T (List.mem_append_right _ (List.mem_append_left _ (List.mem_of_getElem? (i := 194) (by decide +kernel)))) rfl
theorem kf_R_65 : Cond.fieldLink R_R 65 R_R "wide" "I" ∈ gl := gl_T (List.mem_append_right _ (List.mem_append_left _ (List.mem_of_getElem? (i := 195) (by decide +kernel)))) rfl
theorem kf_R_62 : Cond.fieldLink R_R 62 R_R "high" "I" ∈ gl := gl_T (List.mem_append_right _ (List.mem_append_left _ (List.mem_of_getElem? (i := 196) (by decide +kernel)))) rfl
theorem kf_R_24 : Cond.fieldLink R_R 24 R_R "there" "[Z" ∈ gl := gl_T (List.mem_append_right _ (List.mem_append_left _ (List.mem_of_getElem? (i := 197) (by decide +kernel)))) rfl
theorem kf_R_27 : Cond.fieldLink R_R 27 R_R "made" "[J" ∈ gl := gl_T (List.mem_append_right _ (List.mem_append_left _ (List.mem_of_getElem? (i := 198) (by decide +kernel)))) rfl
theorem kf_R_54 : Cond.fieldLink R_R 54 R_R "far" "Z" ∈ gl := gl_T (List.mem_append_right _ (List.mem_append_left _ (List.mem_of_getElem? (i := 199) (by decide +kernel)))) rfl
theorem kl_L_83 : Cond.methodLink R_L 83 y_R_thrown ∈ gl := gl_T (List.mem_append_right _ (List.mem_append_left _ (List.mem_of_getElem? (i := 222) (by decide +kernel)))) rfl
theorem kin_R_thrown : Cond.instanceMethod y_R_thrown ∈ gl := gl_T (List.mem_append_right _ (List.mem_append_left _ (List.mem_of_getElem? (i := 223) (by decide +kernel)))) rfl
theorem kse_R_thrown : Cond.selects R_R y_R_thrown y_R_thrown ∈ gl := gl_T (List.mem_append_right _ (List.mem_append_left _ (List.mem_of_getElem? (i := 224) (by decide +kernel)))) rfl
theorem kl_L_82 : Cond.methodLink R_L 82 y_R_shape ∈ gl := gl_T (List.mem_append_right _ (List.mem_append_left _ (List.mem_of_getElem? (i := 226) (by decide +kernel)))) rfl
theorem kin_R_shape : Cond.instanceMethod y_R_shape ∈ gl := gl_T (List.mem_append_right _ (List.mem_append_left _ (List.mem_of_getElem? (i := 227) (by decide +kernel)))) rfl
theorem kse_R_shape : Cond.selects R_R y_R_shape y_R_shape ∈ gl := gl_T (List.mem_append_right _ (List.mem_append_left _ (List.mem_of_getElem? (i := 228) (by decide +kernel)))) rfl
theorem kl_R_38 : Cond.methodLink R_R 38 y_R_isRegister ∈ gl := gl_T (List.mem_append_right _ (List.mem_append_left _ (List.mem_of_getElem? (i := 230) (by decide +kernel)))) rfl
theorem kst_R_isRegister : Cond.static y_R_isRegister ∈ gl := gl_T (List.mem_append_right _ (List.mem_append_left _ (List.mem_of_getElem? (i := 231) (by decide +kernel)))) rfl
theorem kl_L_92 : Cond.methodLink R_L 92 y_R_put ∈ gl := gl_T (List.mem_append_right _ (List.mem_append_left _ (List.mem_of_getElem? (i := 233) (by decide +kernel)))) rfl
theorem kin_R_put : Cond.instanceMethod y_R_put ∈ gl := gl_T (List.mem_append_right _ (List.mem_append_left _ (List.mem_of_getElem? (i := 234) (by decide +kernel)))) rfl
theorem kse_R_put : Cond.selects R_R y_R_put y_R_put ∈ gl := gl_T (List.mem_append_right _ (List.mem_append_left _ (List.mem_of_getElem? (i := 235) (by decide +kernel)))) rfl
theorem kl_R_42 : Cond.methodLink R_R 42 y_R_isPlace ∈ gl := gl_T (List.mem_append_right _ (List.mem_append_left _ (List.mem_of_getElem? (i := 237) (by decide +kernel)))) rfl
theorem kin_R_isPlace : Cond.instanceMethod y_R_isPlace ∈ gl := gl_T (List.mem_append_right _ (List.mem_append_left _ (List.mem_of_getElem? (i := 239) (by decide +kernel)))) rfl
theorem kl_R_46 : Cond.methodLink R_R 46 y_R_isValue ∈ gl := gl_T (List.mem_append_right _ (List.mem_append_right _ (List.mem_of_getElem? (i := 1) (by decide +kernel)))) rfl
theorem kst_R_isValue : Cond.static y_R_isValue ∈ gl := gl_T (List.mem_append_right _ (List.mem_append_right _ (List.mem_of_getElem? (i := 2) (by decide +kernel)))) rfl
theorem kq_R_34 : Cond.constantLong R_R 34 (-1000000000000) ∈ gl := gl_T (List.mem_append_right _ (List.mem_append_right _ (List.mem_of_getElem? (i := 4) (by decide +kernel)))) rfl
theorem kq_R_36 : Cond.constantLong R_R 36 1000000000000 ∈ gl := gl_T (List.mem_append_right _ (List.mem_append_right _ (List.mem_of_getElem? (i := 5) (by decide +kernel)))) rfl
theorem kl_L_96 : Cond.methodLink R_L 96 y_R_drop ∈ gl := gl_T (List.mem_append_right _ (List.mem_append_right _ (List.mem_of_getElem? (i := 6) (by decide +kernel)))) rfl
theorem kin_R_drop : Cond.instanceMethod y_R_drop ∈ gl := gl_T (List.mem_append_right _ (List.mem_append_right _ (List.mem_of_getElem? (i := 7) (by decide +kernel)))) rfl
theorem kse_R_drop : Cond.selects R_R y_R_drop y_R_drop ∈ gl := gl_T (List.mem_append_right _ (List.mem_append_right _ (List.mem_of_getElem? (i := 8) (by decide +kernel)))) rfl
theorem kl_L_99 : Cond.methodLink R_L 99 y_R_at ∈ gl := gl_T (List.mem_append_right _ (List.mem_append_right _ (List.mem_of_getElem? (i := 10) (by decide +kernel)))) rfl
theorem kin_R_at : Cond.instanceMethod y_R_at ∈ gl := gl_T (List.mem_append_right _ (List.mem_append_right _ (List.mem_of_getElem? (i := 11) (by decide +kernel)))) rfl
theorem kse_R_at : Cond.selects R_R y_R_at y_R_at ∈ gl := gl_T (List.mem_append_right _ (List.mem_append_right _ (List.mem_of_getElem? (i := 12) (by decide +kernel)))) rfl
theorem kl_L_103 : Cond.methodLink R_L 103 y_R_size ∈ gl := gl_T (List.mem_append_right _ (List.mem_append_right _ (List.mem_of_getElem? (i := 14) (by decide +kernel)))) rfl
theorem kin_R_size : Cond.instanceMethod y_R_size ∈ gl := gl_T (List.mem_append_right _ (List.mem_append_right _ (List.mem_of_getElem? (i := 15) (by decide +kernel)))) rfl
theorem kse_R_size : Cond.selects R_R y_R_size y_R_size ∈ gl := gl_T (List.mem_append_right _ (List.mem_append_right _ (List.mem_of_getElem? (i := 16) (by decide +kernel)))) rfl
theorem kl_R_50 : Cond.methodLink R_R 50 y_R_entries ∈ gl := gl_T (List.mem_append_right _ (List.mem_append_right _ (List.mem_of_getElem? (i := 18) (by decide +kernel)))) rfl
theorem kin_R_entries : Cond.instanceMethod y_R_entries ∈ gl := gl_T (List.mem_append_right _ (List.mem_append_right _ (List.mem_of_getElem? (i := 20) (by decide +kernel)))) rfl
theorem kl_L_107 : Cond.methodLink R_L 107 y_R_multiply ∈ gl := gl_T (List.mem_append_right _ (List.mem_append_right _ (List.mem_of_getElem? (i := 22) (by decide +kernel)))) rfl
theorem kin_R_multiply : Cond.instanceMethod y_R_multiply ∈ gl := gl_T (List.mem_append_right _ (List.mem_append_right _ (List.mem_of_getElem? (i := 23) (by decide +kernel)))) rfl
theorem kse_R_multiply : Cond.selects R_R y_R_multiply y_R_multiply ∈ gl := gl_T (List.mem_append_right _ (List.mem_append_right _ (List.mem_of_getElem? (i := 24) (by decide +kernel)))) rfl
theorem kl_R_79 : Cond.methodLink R_R 79 y_R_isRing ∈ gl := gl_T (List.mem_append_right _ (List.mem_append_right _ (List.mem_of_getElem? (i := 26) (by decide +kernel)))) rfl
theorem kst_R_isRing : Cond.static y_R_isRing ∈ gl := gl_T (List.mem_append_right _ (List.mem_append_right _ (List.mem_of_getElem? (i := 27) (by decide +kernel)))) rfl
theorem kl_R_82 : Cond.methodLink R_R 82 y_R_begin ∈ gl := gl_T (List.mem_append_right _ (List.mem_append_right _ (List.mem_of_getElem? (i := 29) (by decide +kernel)))) rfl
theorem kin_R_begin : Cond.instanceMethod y_R_begin ∈ gl := gl_T (List.mem_append_right _ (List.mem_append_right _ (List.mem_of_getElem? (i := 31) (by decide +kernel)))) rfl
theorem kl_R_86 : Cond.methodLink R_R 86 y_R_cross ∈ gl := gl_T (List.mem_append_right _ (List.mem_append_right _ (List.mem_of_getElem? (i := 33) (by decide +kernel)))) rfl
theorem kin_R_cross : Cond.instanceMethod y_R_cross ∈ gl := gl_T (List.mem_append_right _ (List.mem_append_right _ (List.mem_of_getElem? (i := 35) (by decide +kernel)))) rfl
theorem kl_R_68 : Cond.methodLink R_R 68 y_R_product ∈ gl := gl_T (List.mem_append_right _ (List.mem_append_right _ (List.mem_of_getElem? (i := 37) (by decide +kernel)))) rfl
theorem kin_R_product : Cond.instanceMethod y_R_product ∈ gl := gl_T (List.mem_append_right _ (List.mem_append_right _ (List.mem_of_getElem? (i := 39) (by decide +kernel)))) rfl
theorem kl_R_58 : Cond.methodLink R_R 58 y_R_size0 ∈ gl := gl_T (List.mem_append_right _ (List.mem_append_right _ (List.mem_of_getElem? (i := 41) (by decide +kernel)))) rfl
theorem kst_R_size0 : Cond.static y_R_size0 ∈ gl := gl_T (List.mem_append_right _ (List.mem_append_right _ (List.mem_of_getElem? (i := 42) (by decide +kernel)))) rfl
theorem kl_R_72 : Cond.methodLink R_R 72 y_R_sum ∈ gl := gl_T (List.mem_append_right _ (List.mem_append_right _ (List.mem_of_getElem? (i := 44) (by decide +kernel)))) rfl
theorem kin_R_sum : Cond.instanceMethod y_R_sum ∈ gl := gl_T (List.mem_append_right _ (List.mem_append_right _ (List.mem_of_getElem? (i := 46) (by decide +kernel)))) rfl
theorem kl_R_75 : Cond.methodLink R_R 75 y_R_make ∈ gl := gl_T (List.mem_append_right _ (List.mem_append_right _ (List.mem_of_getElem? (i := 48) (by decide +kernel)))) rfl
theorem kin_R_make : Cond.instanceMethod y_R_make ∈ gl := gl_T (List.mem_append_right _ (List.mem_append_right _ (List.mem_of_getElem? (i := 50) (by decide +kernel)))) rfl
theorem kl_R_90 : Cond.methodLink R_R 90 y_R_join ∈ gl := gl_T (List.mem_append_right _ (List.mem_append_right _ (List.mem_of_getElem? (i := 52) (by decide +kernel)))) rfl
theorem kin_R_join : Cond.instanceMethod y_R_join ∈ gl := gl_T (List.mem_append_right _ (List.mem_append_right _ (List.mem_of_getElem? (i := 54) (by decide +kernel)))) rfl
theorem kl_R_93 : Cond.methodLink R_R 93 y_R_finish ∈ gl := gl_T (List.mem_append_right _ (List.mem_append_right _ (List.mem_of_getElem? (i := 56) (by decide +kernel)))) rfl
theorem kin_R_finish : Cond.instanceMethod y_R_finish ∈ gl := gl_T (List.mem_append_right _ (List.mem_append_right _ (List.mem_of_getElem? (i := 58) (by decide +kernel)))) rfl
theorem kl_L_111 : Cond.methodLink R_L 111 y_R_add ∈ gl := gl_T (List.mem_append_right _ (List.mem_append_right _ (List.mem_of_getElem? (i := 60) (by decide +kernel)))) rfl
theorem kin_R_add : Cond.instanceMethod y_R_add ∈ gl := gl_T (List.mem_append_right _ (List.mem_append_right _ (List.mem_of_getElem? (i := 61) (by decide +kernel)))) rfl
theorem kse_R_add : Cond.selects R_R y_R_add y_R_add ∈ gl := gl_T (List.mem_append_right _ (List.mem_append_right _ (List.mem_of_getElem? (i := 62) (by decide +kernel)))) rfl
theorem kl_R_97 : Cond.methodLink R_R 97 y_R_pair ∈ gl := gl_T (List.mem_append_right _ (List.mem_append_right _ (List.mem_of_getElem? (i := 64) (by decide +kernel)))) rfl
theorem kin_R_pair : Cond.instanceMethod y_R_pair ∈ gl := gl_T (List.mem_append_right _ (List.mem_append_right _ (List.mem_of_getElem? (i := 66) (by decide +kernel)))) rfl
theorem kl_L_114 : Cond.methodLink R_L 114 y_R_each ∈ gl := gl_T (List.mem_append_right _ (List.mem_append_right _ (List.mem_of_getElem? (i := 68) (by decide +kernel)))) rfl
theorem kin_R_each : Cond.instanceMethod y_R_each ∈ gl := gl_T (List.mem_append_right _ (List.mem_append_right _ (List.mem_of_getElem? (i := 69) (by decide +kernel)))) rfl
theorem kse_R_each : Cond.selects R_R y_R_each y_R_each ∈ gl := gl_T (List.mem_append_right _ (List.mem_append_right _ (List.mem_of_getElem? (i := 70) (by decide +kernel)))) rfl
theorem kl_L_118 : Cond.methodLink R_L 118 y_R_transpose ∈ gl := gl_T (List.mem_append_right _ (List.mem_append_right _ (List.mem_of_getElem? (i := 72) (by decide +kernel)))) rfl
theorem kin_R_transpose : Cond.instanceMethod y_R_transpose ∈ gl := gl_T (List.mem_append_right _ (List.mem_append_right _ (List.mem_of_getElem? (i := 73) (by decide +kernel)))) rfl
theorem kse_R_transpose : Cond.selects R_R y_R_transpose y_R_transpose ∈ gl := gl_T (List.mem_append_right _ (List.mem_append_right _ (List.mem_of_getElem? (i := 74) (by decide +kernel)))) rfl
theorem kl_L_122 : Cond.methodLink R_L 122 y_R_select ∈ gl := gl_T (List.mem_append_right _ (List.mem_append_right _ (List.mem_of_getElem? (i := 76) (by decide +kernel)))) rfl
theorem kin_R_select : Cond.instanceMethod y_R_select ∈ gl := gl_T (List.mem_append_right _ (List.mem_append_right _ (List.mem_of_getElem? (i := 77) (by decide +kernel)))) rfl
theorem kse_R_select : Cond.selects R_R y_R_select y_R_select ∈ gl := gl_T (List.mem_append_right _ (List.mem_append_right _ (List.mem_of_getElem? (i := 78) (by decide +kernel)))) rfl
theorem kl_R_101 : Cond.methodLink R_R 101 y_R_chosen ∈ gl := gl_T (List.mem_append_right _ (List.mem_append_right _ (List.mem_of_getElem? (i := 80) (by decide +kernel)))) rfl
theorem kst_R_chosen : Cond.static y_R_chosen ∈ gl := gl_T (List.mem_append_right _ (List.mem_append_right _ (List.mem_of_getElem? (i := 81) (by decide +kernel)))) rfl
theorem kl_L_125 : Cond.methodLink R_L 125 y_R_reduce ∈ gl := gl_T (List.mem_append_right _ (List.mem_append_right _ (List.mem_of_getElem? (i := 83) (by decide +kernel)))) rfl
theorem kin_R_reduce : Cond.instanceMethod y_R_reduce ∈ gl := gl_T (List.mem_append_right _ (List.mem_append_right _ (List.mem_of_getElem? (i := 84) (by decide +kernel)))) rfl
theorem kse_R_reduce : Cond.selects R_R y_R_reduce y_R_reduce ∈ gl := gl_T (List.mem_append_right _ (List.mem_append_right _ (List.mem_of_getElem? (i := 85) (by decide +kernel)))) rfl
theorem kl_L_128 : Cond.methodLink R_L 128 y_R_levels ∈ gl := gl_T (List.mem_append_right _ (List.mem_append_right _ (List.mem_of_getElem? (i := 87) (by decide +kernel)))) rfl
theorem kin_R_levels : Cond.instanceMethod y_R_levels ∈ gl := gl_T (List.mem_append_right _ (List.mem_append_right _ (List.mem_of_getElem? (i := 88) (by decide +kernel)))) rfl
theorem kse_R_levels : Cond.selects R_R y_R_levels y_R_levels ∈ gl := gl_T (List.mem_append_right _ (List.mem_append_right _ (List.mem_of_getElem? (i := 89) (by decide +kernel)))) rfl
theorem kl_R_105 : Cond.methodLink R_R 105 y_R_isSquare ∈ gl := gl_T (List.mem_append_right _ (List.mem_append_right _ (List.mem_of_getElem? (i := 91) (by decide +kernel)))) rfl
theorem kin_R_isSquare : Cond.instanceMethod y_R_isSquare ∈ gl := gl_T (List.mem_append_right _ (List.mem_append_right _ (List.mem_of_getElem? (i := 93) (by decide +kernel)))) rfl
theorem kl_L_131 : Cond.methodLink R_L 131 y_R_paths ∈ gl := gl_T (List.mem_append_right _ (List.mem_append_right _ (List.mem_of_getElem? (i := 95) (by decide +kernel)))) rfl
theorem kin_R_paths : Cond.instanceMethod y_R_paths ∈ gl := gl_T (List.mem_append_right _ (List.mem_append_right _ (List.mem_of_getElem? (i := 96) (by decide +kernel)))) rfl
theorem kse_R_paths : Cond.selects R_R y_R_paths y_R_paths ∈ gl := gl_T (List.mem_append_right _ (List.mem_append_right _ (List.mem_of_getElem? (i := 97) (by decide +kernel)))) rfl
theorem kq_R_108 : Cond.constantLong R_R 108 (-1000000000) ∈ gl := gl_T (List.mem_append_right _ (List.mem_append_right _ (List.mem_of_getElem? (i := 99) (by decide +kernel)))) rfl
theorem kq_R_110 : Cond.constantLong R_R 110 1000000000 ∈ gl := gl_T (List.mem_append_right _ (List.mem_append_right _ (List.mem_of_getElem? (i := 100) (by decide +kernel)))) rfl
theorem kl_R_112 : Cond.methodLink R_R 112 y_R_relax ∈ gl := gl_T (List.mem_append_right _ (List.mem_append_right _ (List.mem_of_getElem? (i := 101) (by decide +kernel)))) rfl
theorem kin_R_relax : Cond.instanceMethod y_R_relax ∈ gl := gl_T (List.mem_append_right _ (List.mem_append_right _ (List.mem_of_getElem? (i := 103) (by decide +kernel)))) rfl
theorem kl_L_134 : Cond.methodLink R_L 134 y_R_triangles ∈ gl := gl_T (List.mem_append_right _ (List.mem_append_right _ (List.mem_of_getElem? (i := 105) (by decide +kernel)))) rfl
theorem kin_R_triangles : Cond.instanceMethod y_R_triangles ∈ gl := gl_T (List.mem_append_right _ (List.mem_append_right _ (List.mem_of_getElem? (i := 106) (by decide +kernel)))) rfl
theorem kse_R_triangles : Cond.selects R_R y_R_triangles y_R_triangles ∈ gl := gl_T (List.mem_append_right _ (List.mem_append_right _ (List.mem_of_getElem? (i := 107) (by decide +kernel)))) rfl
theorem kl_L_137 : Cond.methodLink R_L 137 y_R_components ∈ gl := gl_T (List.mem_append_right _ (List.mem_append_right _ (List.mem_of_getElem? (i := 109) (by decide +kernel)))) rfl
theorem kin_R_components : Cond.instanceMethod y_R_components ∈ gl := gl_T (List.mem_append_right _ (List.mem_append_right _ (List.mem_of_getElem? (i := 110) (by decide +kernel)))) rfl
theorem kse_R_components : Cond.selects R_R y_R_components y_R_components ∈ gl := gl_T (List.mem_append_right _ (List.mem_append_right _ (List.mem_of_getElem? (i := 111) (by decide +kernel)))) rfl
theorem kq_L_87 : Cond.constantLong R_L 87 4294967295 ∈ gl := gl_T (List.mem_append_right _ (List.mem_append_right _ (List.mem_of_getElem? (i := 113) (by decide +kernel)))) rfl
theorem kse_D_requirePlace : Cond.selects R_D y_D_requirePlace y_D_requirePlace ∈ gl := gl_of (List.mem_append_left _ (List.mem_of_getElem? (i := 1) (by decide +kernel))) rfl
theorem kse_D_blank : Cond.selects R_D y_D_blank y_D_blank ∈ gl := gl_of (List.mem_append_left _ (List.mem_of_getElem? (i := 2) (by decide +kernel))) rfl
theorem kse_D_keep : Cond.selects R_D y_D_keep y_D_keep ∈ gl := gl_of (List.mem_append_left _ (List.mem_of_getElem? (i := 3) (by decide +kernel))) rfl
theorem kse_D_requireSameShape : Cond.selects R_D y_D_requireSameShape y_D_requireSameShape ∈ gl := gl_of (List.mem_append_left _ (List.mem_of_getElem? (i := 4) (by decide +kernel))) rfl
theorem kse_D_requireGraph : Cond.selects R_D y_D_requireGraph y_D_requireGraph ∈ gl := gl_of (List.mem_append_left _ (List.mem_of_getElem? (i := 5) (by decide +kernel))) rfl
theorem kse_R_isPlace : Cond.selects R_R y_R_isPlace y_R_isPlace ∈ gl := gl_of (List.mem_append_left _ (List.mem_of_getElem? (i := 6) (by decide +kernel))) rfl
theorem kse_R_entries : Cond.selects R_R y_R_entries y_R_entries ∈ gl := gl_of (List.mem_append_left _ (List.mem_of_getElem? (i := 7) (by decide +kernel))) rfl
theorem kse_R_begin : Cond.selects R_R y_R_begin y_R_begin ∈ gl := gl_of (List.mem_append_left _ (List.mem_of_getElem? (i := 8) (by decide +kernel))) rfl
theorem kse_R_cross : Cond.selects R_R y_R_cross y_R_cross ∈ gl := gl_of (List.mem_append_left _ (List.mem_of_getElem? (i := 9) (by decide +kernel))) rfl
theorem kse_R_product : Cond.selects R_R y_R_product y_R_product ∈ gl := gl_of (List.mem_append_left _ (List.mem_of_getElem? (i := 10) (by decide +kernel))) rfl
theorem kse_R_sum : Cond.selects R_R y_R_sum y_R_sum ∈ gl := gl_of (List.mem_append_left _ (List.mem_of_getElem? (i := 11) (by decide +kernel))) rfl
theorem kse_R_make : Cond.selects R_R y_R_make y_R_make ∈ gl := gl_of (List.mem_append_left _ (List.mem_of_getElem? (i := 12) (by decide +kernel))) rfl
theorem kse_R_join : Cond.selects R_R y_R_join y_R_join ∈ gl := gl_of (List.mem_append_left _ (List.mem_of_getElem? (i := 13) (by decide +kernel))) rfl
theorem kse_R_finish : Cond.selects R_R y_R_finish y_R_finish ∈ gl := gl_of (List.mem_append_left _ (List.mem_of_getElem? (i := 14) (by decide +kernel))) rfl
theorem kse_R_pair : Cond.selects R_R y_R_pair y_R_pair ∈ gl := gl_of (List.mem_append_left _ (List.mem_of_getElem? (i := 15) (by decide +kernel))) rfl
theorem kse_R_isSquare : Cond.selects R_R y_R_isSquare y_R_isSquare ∈ gl := gl_of (List.mem_append_left _ (List.mem_of_getElem? (i := 16) (by decide +kernel))) rfl
theorem kse_R_relax : Cond.selects R_R y_R_relax y_R_relax ∈ gl := gl_of (List.mem_append_left _ (List.mem_of_getElem? (i := 17) (by decide +kernel))) rfl
/-- the words of a static call; of a virtual one -/
def SW (own : String) (idx : Nat) (y : MethodName) (cw : Cond) (n : Nat) : Prop := Cond.methodLink own idx y ∈ gl ∧ Cond.static y ∈ gl ∧ Cond.initialized y.cls ∈ gl ∧ cw ∈ gl ∧ (y.cls ≠ "java/lang/invoke/MethodHandle" ∧ y.cls ≠ "java/lang/invoke/VarHandle") ∧ (parseMethodDescriptor y.desc).map (fun d => d.parameters.length) = some n
def VW (own : String) (idx : Nat) (y : MethodName) (cw : Cond) (n : Nat) : Prop := Cond.methodLink own idx y ∈ gl ∧ (Cond.instanceMethod y ∈ gl ∧ Cond.selects y.cls y y ∈ gl) ∧ Cond.initialized y.cls ∈ gl ∧ cw ∈ gl ∧ (y.cls ≠ "java/lang/invoke/MethodHandle" ∧ y.cls ≠ "java/lang/invoke/VarHandle") ∧ (parseMethodDescriptor y.desc).map (fun d => d.parameters.length) = some n
theorem s_D_20 : SW R_D 20 y_D_requireRegister cw_D_requireRegister 1 := ⟨kl_D_20, kst_D_requireRegister, ki_D, kc_D_requireRegister, by decide, by decide +kernel⟩
theorem s_D_24 : SW R_D 24 y_D_requireSide cw_D_requireSide 1 := ⟨kl_D_24, kst_D_requireSide, ki_D, kc_D_requireSide, by decide, by decide +kernel⟩
theorem v_D_27 : VW R_D 27 y_M_clear cw_M_clear 2 := ⟨kl_D_27, ⟨kin_M_clear, kse_M_clear⟩, ki_M, kc_M_clear, by decide, by decide +kernel⟩
theorem v_D_31 : VW R_D 31 y_D_requirePlace cw_D_requirePlace 3 := ⟨kl_D_31, ⟨kin_D_requirePlace, kse_D_requirePlace⟩, ki_D, kc_D_requirePlace, by decide, by decide +kernel⟩
theorem s_D_35 : SW R_D 35 y_D_requireValue cw_D_requireValue 1 := ⟨kl_D_35, kst_D_requireValue, ki_D, kc_D_requireValue, by decide, by decide +kernel⟩
theorem v_D_39 : VW R_D 39 y_M_enter cw_M_enter 3 := ⟨kl_D_39, ⟨kin_M_enter, kse_M_enter⟩, ki_M, kc_M_enter, by decide, by decide +kernel⟩
theorem v_D_43 : VW R_D 43 y_M_has cw_M_has 2 := ⟨kl_D_43, ⟨kin_M_has, kse_M_has⟩, ki_M, kc_M_has, by decide, by decide +kernel⟩
theorem v_D_47 : VW R_D 47 y_M_remove cw_M_remove 2 := ⟨kl_D_47, ⟨kin_M_remove, kse_M_remove⟩, ki_M, kc_M_remove, by decide, by decide +kernel⟩
theorem s_D_50 : SW R_D 50 y_D_requireEntry cw_D_requireEntry 1 := ⟨kl_D_50, kst_D_requireEntry, ki_D, kc_D_requireEntry, by decide, by decide +kernel⟩
theorem v_D_54 : VW R_D 54 y_M_value cw_M_value 2 := ⟨kl_D_54, ⟨kin_M_value, kse_M_value⟩, ki_M, kc_M_value, by decide, by decide +kernel⟩
theorem v_D_65 : VW R_D 65 y_M_count cw_M_count 0 := ⟨kl_D_65, ⟨kin_M_count, kse_M_count⟩, ki_M, kc_M_count, by decide, by decide +kernel⟩
theorem s_D_69 : SW R_D 69 y_D_requireOperands cw_D_requireOperands 4 := ⟨kl_D_69, kst_D_requireOperands, ki_D, kc_D_requireOperands, by decide, by decide +kernel⟩
theorem s_D_73 : SW R_D 73 y_D_requireMask cw_D_requireMask 1 := ⟨kl_D_73, kst_D_requireMask, ki_D, kc_D_requireMask, by decide, by decide +kernel⟩
theorem s_D_76 : SW R_D 76 y_D_requireHow cw_D_requireHow 2 := ⟨kl_D_76, kst_D_requireHow, ki_D, kc_D_requireHow, by decide, by decide +kernel⟩
theorem s_D_79 : SW R_D 79 y_D_requireFit cw_D_requireFit 1 := ⟨kl_D_79, kst_D_requireFit, ki_D, kc_D_requireFit, by decide, by decide +kernel⟩
theorem v_D_82 : VW R_D 82 y_M_isShaped cw_M_isShaped 2 := ⟨kl_D_82, ⟨kin_M_isShaped, kse_M_isShaped⟩, ki_M, kc_M_isShaped, by decide, by decide +kernel⟩
theorem v_D_85 : VW R_D 85 y_D_blank cw_D_blank 2 := ⟨kl_D_85, ⟨kin_D_blank, kse_D_blank⟩, ki_D, kc_D_blank, by decide, by decide +kernel⟩
theorem s_D_89 : SW R_D 89 y_D_gatherProducts cw_D_gatherProducts 6 := ⟨kl_D_89, kst_D_gatherProducts, ki_D, kc_D_gatherProducts, by decide, by decide +kernel⟩
theorem s_D_93 : SW R_D 93 y_D_gatherAll cw_D_gatherAll 3 := ⟨kl_D_93, kst_D_gatherAll, ki_D, kc_D_gatherAll, by decide, by decide +kernel⟩
theorem s_D_97 : SW R_D 97 y_D_dropZeros cw_D_dropZeros 2 := ⟨kl_D_97, kst_D_dropZeros, ki_D, kc_D_dropZeros, by decide, by decide +kernel⟩
theorem v_D_101 : VW R_D 101 y_D_keep cw_D_keep 1 := ⟨kl_D_101, ⟨kin_D_keep, kse_D_keep⟩, ki_D, kc_D_keep, by decide, by decide +kernel⟩
theorem v_D_105 : VW R_D 105 y_D_requireSameShape cw_D_requireSameShape 2 := ⟨kl_D_105, ⟨kin_D_requireSameShape, kse_D_requireSameShape⟩, ki_D, kc_D_requireSameShape, by decide, by decide +kernel⟩
theorem s_D_108 : SW R_D 108 y_D_productOver cw_D_productOver 3 := ⟨kl_D_108, kst_D_productOver, ki_D, kc_D_productOver, by decide, by decide +kernel⟩
theorem s_D_112 : SW R_D 112 y_D_isSelected cw_D_isSelected 5 := ⟨kl_D_112, kst_D_isSelected, ki_D, kc_D_isSelected, by decide, by decide +kernel⟩
theorem s_D_116 : SW R_D 116 y_D_requireSemiring cw_D_requireSemiring 1 := ⟨kl_D_116, kst_D_requireSemiring, ki_D, kc_D_requireSemiring, by decide, by decide +kernel⟩
theorem s_D_119 : SW R_D 119 y_D_gather cw_D_gather 5 := ⟨kl_D_119, kst_D_gather, ki_D, kc_D_gather, by decide, by decide +kernel⟩
theorem v_D_123 : VW R_D 123 y_D_requireGraph cw_D_requireGraph 1 := ⟨kl_D_123, ⟨kin_D_requireGraph, kse_D_requireGraph⟩, ki_D, kc_D_requireGraph, by decide, by decide +kernel⟩
theorem s_D_126 : SW R_D 126 y_D_requireVertex cw_D_requireVertex 2 := ⟨kl_D_126, kst_D_requireVertex, ki_D, kc_D_requireVertex, by decide, by decide +kernel⟩
theorem s_D_129 : SW R_D 129 y_D_enterNextLevel cw_D_enterNextLevel 3 := ⟨kl_D_129, kst_D_enterNextLevel, ki_D, kc_D_enterNextLevel, by decide, by decide +kernel⟩
theorem s_D_132 : SW R_D 132 y_D_requireLengths cw_D_requireLengths 1 := ⟨kl_D_132, kst_D_requireLengths, ki_D, kc_D_requireLengths, by decide, by decide +kernel⟩
theorem s_D_136 : SW R_D 136 y_D_shortenOver cw_D_shortenOver 2 := ⟨kl_D_136, kst_D_shortenOver, ki_D, kc_D_shortenOver, by decide, by decide +kernel⟩
theorem s_D_139 : SW R_D 139 y_D_requireNoCircleBelowZero cw_D_requireNoCircleBelowZero 1 := ⟨kl_D_139, kst_D_requireNoCircleBelowZero, ki_D, kc_D_requireNoCircleBelowZero, by decide, by decide +kernel⟩
theorem s_D_142 : SW R_D 142 y_D_spreadLeastVertices cw_D_spreadLeastVertices 2 := ⟨kl_D_142, kst_D_spreadLeastVertices, ki_D, kc_D_spreadLeastVertices, by decide, by decide +kernel⟩
theorem s_D_146 : SW R_D 146 y_D_sumOver cw_D_sumOver 3 := ⟨kl_D_146, kst_D_sumOver, ki_D, kc_D_sumOver, by decide, by decide +kernel⟩
theorem s_D_149 : SW R_D 149 y_D_plus cw_D_plus 2 := ⟨kl_D_149, kst_D_plus, ki_D, kc_D_plus, by decide, by decide +kernel⟩
theorem s_D_161 : SW R_D 161 y_D_times cw_D_times 2 := ⟨kl_D_161, kst_D_times, ki_D, kc_D_times, by decide, by decide +kernel⟩
theorem s_D_164 : SW R_D 164 y_D_isValue cw_D_isValue 1 := ⟨kl_D_164, kst_D_isValue, ki_D, kc_D_isValue, by decide, by decide +kernel⟩
theorem s_D_183 : SW R_D 183 y_D_enterNeighbours cw_D_enterNeighbours 4 := ⟨kl_D_183, kst_D_enterNeighbours, ki_D, kc_D_enterNeighbours, by decide, by decide +kernel⟩
theorem v_L_7 : VW R_L 7 y_D_shape cw_D_shape 3 := ⟨kl_L_7, ⟨kin_D_shape, kse_D_shape⟩, ki_D, kc_D_shape, by decide, by decide +kernel⟩
theorem v_L_15 : VW R_L 15 y_D_put cw_D_put 4 := ⟨kl_L_15, ⟨kin_D_put, kse_D_put⟩, ki_D, kc_D_put, by decide, by decide +kernel⟩
theorem v_L_19 : VW R_L 19 y_D_drop cw_D_drop 3 := ⟨kl_L_19, ⟨kin_D_drop, kse_D_drop⟩, ki_D, kc_D_drop, by decide, by decide +kernel⟩
theorem v_L_23 : VW R_L 23 y_D_at cw_D_at 3 := ⟨kl_L_23, ⟨kin_D_at, kse_D_at⟩, ki_D, kc_D_at, by decide, by decide +kernel⟩
theorem v_L_29 : VW R_L 29 y_D_size cw_D_size 1 := ⟨kl_L_29, ⟨kin_D_size, kse_D_size⟩, ki_D, kc_D_size, by decide, by decide +kernel⟩
theorem v_L_33 : VW R_L 33 y_D_multiply cw_D_multiply 6 := ⟨kl_L_33, ⟨kin_D_multiply, kse_D_multiply⟩, ki_D, kc_D_multiply, by decide, by decide +kernel⟩
theorem v_L_41 : VW R_L 41 y_D_add cw_D_add 4 := ⟨kl_L_41, ⟨kin_D_add, kse_D_add⟩, ki_D, kc_D_add, by decide, by decide +kernel⟩
theorem v_L_45 : VW R_L 45 y_D_each cw_D_each 4 := ⟨kl_L_45, ⟨kin_D_each, kse_D_each⟩, ki_D, kc_D_each, by decide, by decide +kernel⟩
theorem v_L_48 : VW R_L 48 y_D_transpose cw_D_transpose 2 := ⟨kl_L_48, ⟨kin_D_transpose, kse_D_transpose⟩, ki_D, kc_D_transpose, by decide, by decide +kernel⟩
theorem v_L_52 : VW R_L 52 y_D_select cw_D_select 4 := ⟨kl_L_52, ⟨kin_D_select, kse_D_select⟩, ki_D, kc_D_select, by decide, by decide +kernel⟩
theorem v_L_56 : VW R_L 56 y_D_reduce cw_D_reduce 2 := ⟨kl_L_56, ⟨kin_D_reduce, kse_D_reduce⟩, ki_D, kc_D_reduce, by decide, by decide +kernel⟩
theorem v_L_60 : VW R_L 60 y_D_levels cw_D_levels 3 := ⟨kl_L_60, ⟨kin_D_levels, kse_D_levels⟩, ki_D, kc_D_levels, by decide, by decide +kernel⟩
theorem v_L_64 : VW R_L 64 y_D_paths cw_D_paths 2 := ⟨kl_L_64, ⟨kin_D_paths, kse_D_paths⟩, ki_D, kc_D_paths, by decide, by decide +kernel⟩
theorem v_L_67 : VW R_L 67 y_D_triangles cw_D_triangles 1 := ⟨kl_L_67, ⟨kin_D_triangles, kse_D_triangles⟩, ki_D, kc_D_triangles, by decide, by decide +kernel⟩
theorem v_L_70 : VW R_L 70 y_D_components cw_D_components 2 := ⟨kl_L_70, ⟨kin_D_components, kse_D_components⟩, ki_D, kc_D_components, by decide, by decide +kernel⟩
theorem s_L_77 : SW R_L 77 y_L_shape cw_L_shape 4 := ⟨kl_L_77, kst_L_shape, ki_L, kc_L_shape, by decide, by decide +kernel⟩
theorem v_L_82 : VW R_L 82 y_R_shape cw_R_shape 3 := ⟨kl_L_82, ⟨kin_R_shape, kse_R_shape⟩, ki_R, kc_R_shape, by decide, by decide +kernel⟩
theorem v_L_83 : VW R_L 83 y_R_thrown cw_R_thrown 0 := ⟨kl_L_83, ⟨kin_R_thrown, kse_R_thrown⟩, ki_R, kc_R_thrown, by decide, by decide +kernel⟩
theorem s_L_89 : SW R_L 89 y_L_put cw_L_put 5 := ⟨kl_L_89, kst_L_put, ki_L, kc_L_put, by decide, by decide +kernel⟩
theorem v_L_92 : VW R_L 92 y_R_put cw_R_put 4 := ⟨kl_L_92, ⟨kin_R_put, kse_R_put⟩, ki_R, kc_R_put, by decide, by decide +kernel⟩
theorem s_L_93 : SW R_L 93 y_L_drop cw_L_drop 5 := ⟨kl_L_93, kst_L_drop, ki_L, kc_L_drop, by decide, by decide +kernel⟩
theorem v_L_96 : VW R_L 96 y_R_drop cw_R_drop 3 := ⟨kl_L_96, ⟨kin_R_drop, kse_R_drop⟩, ki_R, kc_R_drop, by decide, by decide +kernel⟩
theorem s_L_97 : SW R_L 97 y_L_at cw_L_at 5 := ⟨kl_L_97, kst_L_at, ki_L, kc_L_at, by decide, by decide +kernel⟩
theorem v_L_99 : VW R_L 99 y_R_at cw_R_at 3 := ⟨kl_L_99, ⟨kin_R_at, kse_R_at⟩, ki_R, kc_R_at, by decide, by decide +kernel⟩
theorem s_L_100 : SW R_L 100 y_L_size cw_L_size 3 := ⟨kl_L_100, kst_L_size, ki_L, kc_L_size, by decide, by decide +kernel⟩
theorem v_L_103 : VW R_L 103 y_R_size cw_R_size 1 := ⟨kl_L_103, ⟨kin_R_size, kse_R_size⟩, ki_R, kc_R_size, by decide, by decide +kernel⟩
theorem s_L_104 : SW R_L 104 y_L_multiply cw_L_multiply 8 := ⟨kl_L_104, kst_L_multiply, ki_L, kc_L_multiply, by decide, by decide +kernel⟩
theorem v_L_107 : VW R_L 107 y_R_multiply cw_R_multiply 6 := ⟨kl_L_107, ⟨kin_R_multiply, kse_R_multiply⟩, ki_R, kc_R_multiply, by decide, by decide +kernel⟩
theorem s_L_108 : SW R_L 108 y_L_add cw_L_add 6 := ⟨kl_L_108, kst_L_add, ki_L, kc_L_add, by decide, by decide +kernel⟩
theorem v_L_111 : VW R_L 111 y_R_add cw_R_add 4 := ⟨kl_L_111, ⟨kin_R_add, kse_R_add⟩, ki_R, kc_R_add, by decide, by decide +kernel⟩
theorem s_L_112 : SW R_L 112 y_L_each cw_L_each 6 := ⟨kl_L_112, kst_L_each, ki_L, kc_L_each, by decide, by decide +kernel⟩
theorem v_L_114 : VW R_L 114 y_R_each cw_R_each 4 := ⟨kl_L_114, ⟨kin_R_each, kse_R_each⟩, ki_R, kc_R_each, by decide, by decide +kernel⟩
theorem s_L_115 : SW R_L 115 y_L_transpose cw_L_transpose 4 := ⟨kl_L_115, kst_L_transpose, ki_L, kc_L_transpose, by decide, by decide +kernel⟩
theorem v_L_118 : VW R_L 118 y_R_transpose cw_R_transpose 2 := ⟨kl_L_118, ⟨kin_R_transpose, kse_R_transpose⟩, ki_R, kc_R_transpose, by decide, by decide +kernel⟩
theorem s_L_119 : SW R_L 119 y_L_select cw_L_select 6 := ⟨kl_L_119, kst_L_select, ki_L, kc_L_select, by decide, by decide +kernel⟩
theorem v_L_122 : VW R_L 122 y_R_select cw_R_select 4 := ⟨kl_L_122, ⟨kin_R_select, kse_R_select⟩, ki_R, kc_R_select, by decide, by decide +kernel⟩
theorem s_L_123 : SW R_L 123 y_L_reduce cw_L_reduce 4 := ⟨kl_L_123, kst_L_reduce, ki_L, kc_L_reduce, by decide, by decide +kernel⟩
theorem v_L_125 : VW R_L 125 y_R_reduce cw_R_reduce 2 := ⟨kl_L_125, ⟨kin_R_reduce, kse_R_reduce⟩, ki_R, kc_R_reduce, by decide, by decide +kernel⟩
theorem s_L_126 : SW R_L 126 y_L_levels cw_L_levels 5 := ⟨kl_L_126, kst_L_levels, ki_L, kc_L_levels, by decide, by decide +kernel⟩
theorem v_L_128 : VW R_L 128 y_R_levels cw_R_levels 3 := ⟨kl_L_128, ⟨kin_R_levels, kse_R_levels⟩, ki_R, kc_R_levels, by decide, by decide +kernel⟩
theorem s_L_129 : SW R_L 129 y_L_paths cw_L_paths 4 := ⟨kl_L_129, kst_L_paths, ki_L, kc_L_paths, by decide, by decide +kernel⟩
theorem v_L_131 : VW R_L 131 y_R_paths cw_R_paths 2 := ⟨kl_L_131, ⟨kin_R_paths, kse_R_paths⟩, ki_R, kc_R_paths, by decide, by decide +kernel⟩
theorem s_L_132 : SW R_L 132 y_L_triangles cw_L_triangles 3 := ⟨kl_L_132, kst_L_triangles, ki_L, kc_L_triangles, by decide, by decide +kernel⟩
theorem v_L_134 : VW R_L 134 y_R_triangles cw_R_triangles 1 := ⟨kl_L_134, ⟨kin_R_triangles, kse_R_triangles⟩, ki_R, kc_R_triangles, by decide, by decide +kernel⟩
theorem s_L_135 : SW R_L 135 y_L_components cw_L_components 4 := ⟨kl_L_135, kst_L_components, ki_L, kc_L_components, by decide, by decide +kernel⟩
theorem v_L_137 : VW R_L 137 y_R_components cw_R_components 2 := ⟨kl_L_137, ⟨kin_R_components, kse_R_components⟩, ki_R, kc_R_components, by decide, by decide +kernel⟩
theorem s_R_38 : SW R_R 38 y_R_isRegister cw_R_isRegister 1 := ⟨kl_R_38, kst_R_isRegister, ki_R, kc_R_isRegister, by decide, by decide +kernel⟩
theorem v_R_42 : VW R_R 42 y_R_isPlace cw_R_isPlace 3 := ⟨kl_R_42, ⟨kin_R_isPlace, kse_R_isPlace⟩, ki_R, kc_R_isPlace, by decide, by decide +kernel⟩
theorem s_R_46 : SW R_R 46 y_R_isValue cw_R_isValue 1 := ⟨kl_R_46, kst_R_isValue, ki_R, kc_R_isValue, by decide, by decide +kernel⟩
theorem v_R_50 : VW R_R 50 y_R_entries cw_R_entries 1 := ⟨kl_R_50, ⟨kin_R_entries, kse_R_entries⟩, ki_R, kc_R_entries, by decide, by decide +kernel⟩
theorem s_R_58 : SW R_R 58 y_R_size0 cw_R_size0 1 := ⟨kl_R_58, kst_R_size0, ki_R, kc_R_size0, by decide, by decide +kernel⟩
theorem v_R_68 : VW R_R 68 y_R_product cw_R_product 3 := ⟨kl_R_68, ⟨kin_R_product, kse_R_product⟩, ki_R, kc_R_product, by decide, by decide +kernel⟩
theorem v_R_72 : VW R_R 72 y_R_sum cw_R_sum 3 := ⟨kl_R_72, ⟨kin_R_sum, kse_R_sum⟩, ki_R, kc_R_sum, by decide, by decide +kernel⟩
theorem v_R_75 : VW R_R 75 y_R_make cw_R_make 3 := ⟨kl_R_75, ⟨kin_R_make, kse_R_make⟩, ki_R, kc_R_make, by decide, by decide +kernel⟩
theorem s_R_79 : SW R_R 79 y_R_isRing cw_R_isRing 1 := ⟨kl_R_79, kst_R_isRing, ki_R, kc_R_isRing, by decide, by decide +kernel⟩
theorem v_R_82 : VW R_R 82 y_R_begin cw_R_begin 2 := ⟨kl_R_82, ⟨kin_R_begin, kse_R_begin⟩, ki_R, kc_R_begin, by decide, by decide +kernel⟩
theorem v_R_86 : VW R_R 86 y_R_cross cw_R_cross 5 := ⟨kl_R_86, ⟨kin_R_cross, kse_R_cross⟩, ki_R, kc_R_cross, by decide, by decide +kernel⟩
theorem v_R_90 : VW R_R 90 y_R_join cw_R_join 2 := ⟨kl_R_90, ⟨kin_R_join, kse_R_join⟩, ki_R, kc_R_join, by decide, by decide +kernel⟩
theorem v_R_93 : VW R_R 93 y_R_finish cw_R_finish 2 := ⟨kl_R_93, ⟨kin_R_finish, kse_R_finish⟩, ki_R, kc_R_finish, by decide, by decide +kernel⟩
theorem v_R_97 : VW R_R 97 y_R_pair cw_R_pair 4 := ⟨kl_R_97, ⟨kin_R_pair, kse_R_pair⟩, ki_R, kc_R_pair, by decide, by decide +kernel⟩
theorem s_R_101 : SW R_R 101 y_R_chosen cw_R_chosen 5 := ⟨kl_R_101, kst_R_chosen, ki_R, kc_R_chosen, by decide, by decide +kernel⟩
theorem v_R_105 : VW R_R 105 y_R_isSquare cw_R_isSquare 1 := ⟨kl_R_105, ⟨kin_R_isSquare, kse_R_isSquare⟩, ki_R, kc_R_isSquare, by decide, by decide +kernel⟩
theorem v_R_112 : VW R_R 112 y_R_relax cw_R_relax 0 := ⟨kl_R_112, ⟨kin_R_relax, kse_R_relax⟩, ki_R, kc_R_relax, by decide, by decide +kernel⟩
end
section
/-- where a static field lies, its class's statics cell in H -/
def vx_L (C n d : String) (A : Nat → Prop) (U : State) (H : Heap) : Prop := ∃ (c : ClassId) (k : Class) (i : Nat) (f : Field) (a : Nat) (cell : Cell), U.vm.findClass C = some c ∧ U.fieldFound? C n d = some (c, k, i, f) ∧ f.isStatic = true ∧ k.statics = some a ∧ H[a]? = some cell ∧ cell.vm.isStatics = true ∧ cell.cls = c ∧ f.slot < cell.slots.size ∧ k.staticTypes[f.slot]? = some f.type ∧ ¬ A a
theorem vx_L.moved {C n d : String} {A : Nat → Prop} {u U : State} {H : Heap} (hvm : u.vm.Alike U.vm) (h : vx_L C n d A u H) : vx_L C n d A U H := by
  obtain ⟨c, k, i, f, a, cell, h1, h2, h3, h4, h5, h6, h7, h8, h9, h10⟩ := h
  obtain ⟨k', hi', he⟩ := State.fieldFound?_setVm hvm h2
  exact ⟨c, k', i, f, a, cell, by rw [hvm.findClass]; exact h1, hi', h3, by rw [he]; exact h4, h5, h6, h7, h8, by rw [he]; exact h9, h10⟩
theorem vx_L.kept {C n d : String} {A : Nat → Prop} {U : State} {H H1 : Heap} (h : vx_L C n d A U H) (hq : ∀ a : Nat, a < H.size → ¬ A a → H1[a]? = H[a]?) : vx_L C n d A U H1 := by
  obtain ⟨c, k, i, f, a, cell, h1, h2, h3, h4, h5, h6, h7, h8, h9, h10⟩ := h
  exact ⟨c, k, i, f, a, cell, h1, h2, h3, h4, by rw [hq a (Array.getElem?_eq_some_iff.mp h5).1 h10]; exact h5, h6, h7, h8, h9, h10⟩
theorem vx_L.narrow {C n d : String} {A B : Nat → Prop} {U : State} {H : Heap} (h : vx_L C n d A U H) (hAB : ∀ q, B q → A q) : vx_L C n d B U H := by
  obtain ⟨c, k, i, f, a, cell, h1, h2, h3, h4, h5, h6, h7, h8, h9, h10⟩ := h
  exact ⟨c, k, i, f, a, cell, h1, h2, h3, h4, h5, h6, h7, h8, h9, fun z => h10 (hAB _ z)⟩
theorem vx_L.word {C n d : String} {A : Nat → Prop} {s : State} {args : Array Value} (h : vx_L C n d A s s.heap) : (Cond.laysStatic C n d).before args s = true := by
  obtain ⟨c, k, i, f, a, cell, h1, h2, h3, h4, h5, h6, h7, h8, h9, -⟩ := h
  show (Cond.laysStatic C n d).holds args s none s [] = true
  exact Cond.laysStatic_of h1 h2 h3 h4 h5 h6 h7 h8 h9
/-- .. and what it holds: null or some reference -/
def vx_Zq (C n d : String) (A : Nat → Prop) (U : State) (H : Heap) : Prop := va_Zq C n d A U H ∧ vx_L C n d A U H
theorem vx_Zq.moved {C n d : String} {A : Nat → Prop} {u U : State} {H : Heap} (hvm : u.vm.Alike U.vm) (h : vx_Zq C n d A u H) : vx_Zq C n d A U H := ⟨va_Zq.moved hvm h.1, vx_L.moved hvm h.2⟩
theorem vx_Zq.kept {C n d : String} {A : Nat → Prop} {U : State} {H H1 : Heap} (h : vx_Zq C n d A U H) (hq : ∀ a : Nat, a < H.size → ¬ A a → H1[a]? = H[a]?) : vx_Zq C n d A U H1 := ⟨va_Zq.kept h.1 hq, vx_L.kept h.2 hq⟩
theorem vx_Zq.narrow {C n d : String} {A B : Nat → Prop} {U : State} {H : Heap} (h : vx_Zq C n d A U H) (hAB : ∀ q, B q → A q) : vx_Zq C n d B U H := ⟨va_Zq.narrow h.1 hAB, vx_L.narrow h.2 hAB⟩
theorem vx_Zqof {args : Array Value} {s : State} {C n d : String} {A : Nat → Prop} (hl : (Cond.laysStatic C n d).before args s = true) (hini : (Cond.initialized C).before args s = true) (h : (Cond.isRef (.static C n d)).before args s = true) (hA : ∀ a : Nat, a < s.heap.size → ¬ A a) : vx_Zq C n d A s s.heap := by
  refine ⟨va_Zqof hl hini h hA, ?_⟩
  obtain ⟨c, k, i, f, a, cell, h1, h2, h3, h4, h5, h6, h7, h8, h9⟩ := Cond.laysStatic_spec hl
  exact ⟨c, k, i, f, a, cell, h1, h2, h3, h4, h5, h6, h7, h8, h9, hA a (Array.getElem?_eq_some_iff.mp h5).1⟩
theorem vx_isRef {C n d : String} {v : Value} {A : Nat → Prop} {s : State} {args : Array Value} (h : va_Z C n d v A s s.heap) (hv : v.isRef = true) : (Cond.isRef (.static C n d)).before args s = true := by
  obtain ⟨cf, kf, fi, f, a, cell, h1, h2, h3, h4, h5, h6, h7, -⟩ := h
  have he : (Term.static C n d).eval args s none [] s = some v := by
    simp [Term.eval, State.fieldNamed?, h1, h2, h4, h5, h6, h7]
  simp only [Cond.before, Cond.holds, Cond.value, he]
  cases v <;> simp_all [Value.isRef]
theorem vx_isRefq {C n d : String} {A : Nat → Prop} {s : State} {args : Array Value} (h : va_Zq C n d A s s.heap) : (Cond.isRef (.static C n d)).before args s = true := by
  rcases h with h | ⟨t, h⟩
  · exact vx_isRef h rfl
  · exact vx_isRef h rfl
/-! The base: one judgement G for a walk (machine, locals, stack, world), contracts CT for methods that return or throw. -/
section GB
/-- the constants of one invocation -/
abbrev KX : Type := Program × Launch × Env × Room × State × MethodId × Array Value × List Frame × Method × Code
abbrev xp (κ : KX) : Program := κ.1
abbrev xl (κ : KX) : Launch := κ.2.1
abbrev xe (κ : KX) : Env := κ.2.2.1
abbrev xR (κ : KX) : Room := κ.2.2.2.1
abbrev xs (κ : KX) : State := κ.2.2.2.2.1
abbrev xm (κ : KX) : MethodId := κ.2.2.2.2.2.1
abbrev xa (κ : KX) : Array Value := κ.2.2.2.2.2.2.1
abbrev xb (κ : KX) : List Frame := κ.2.2.2.2.2.2.2.1
abbrev xM (κ : KX) : Method := κ.2.2.2.2.2.2.2.2.1
abbrev xc (κ : KX) : Code := κ.2.2.2.2.2.2.2.2.2
abbrev kW (κ : KX) (H : Heap) (locs : List Loc) (cs sl : Nat) (Q : State → Prop) (g : JFrame) : Prop :=
  W (xp κ) (xl κ) (xe κ) (xR κ) (xs κ) (xm κ) (xa κ) (xb κ) (xM κ) (xc κ) H locs cs sl Q g
/-- the classes' numbers and slots, and the array classes' numbers -/
abbrev EX : Type := va_G × (Nat → ClassId)
/-- what ends a method: an exception's kind, or what it returns -/
abbrev OC : Type := Nat ⊕ Option Value
def xcN (z : Nat) : String := if z = 1 then "java/lang/IllegalArgumentException" else if z = 2 then "java/lang/IllegalStateException" else if z = 3 then "java/util/NoSuchElementException" else "java/lang/UnsupportedOperationException"
def Fs (A0 : Nat → Prop) (U : State) (H : Heap) : Prop := vx_Zq "java/lang/Throwable" "UNASSIGNED_STACK" "[Ljava/lang/StackTraceElement;" A0 U H ∧ vx_Zq "java/lang/Throwable" "SUPPRESSED_SENTINEL" "Ljava/util/List;" A0 U H
/-- what every method's start needs of the tables and of the statics -/
def Fc (δ : EX) (A0 : Nat → Prop) (U : State) : Prop := (∀ w ∈ gl, w.before #[] U = true) ∧ va_K δ.1 vwCl (tyl δ.2) U ∧ Fs A0 U U.heap
def XcAt (z x : Nat) (st t : State) : Prop := st.heap.size ≤ x ∧ ∃ cell : Cell, t.heap[x]? = some cell ∧ cell.vm = .none ∧ t.vm.findClass (xcN z) = some cell.cls
def Qx (δ : EX) (A0 : Nat → Prop) (P : OC → va_W → Prop) (st : State) (o : Outcome) (t : State) : Prop :=
  ∃ (r : OC) (w : va_W) (L : List Loc) (k n : Nat), P r w ∧ va_P δ.1 vwCl w t.heap ∧ (∀ q : Nat, q < st.heap.size → ¬ A0 q → t.heap[q]? = st.heap[q]?) ∧ st.WarmedH t.vm ∧ st.sameButNew ({ t with vm := st.vm } : State) L k n ∧ (∀ q ∈ L, A0 q.base ∨ st.heap.size ≤ q.base) ∧
    match r with
    | .inr v => o = .returned v ∧ k = 0 ∧ n = 0
    | .inl z => k = 1 ∧ n = 6 ∧ ∃ x : Nat, o = .threw x ∧ XcAt z x st t
/-- the locals that a store leaves -/
def lvR1 (i : Nat) (lv : List (Nat × Value)) : List (Nat × Value) := lv.filter (fun q => !(q.1 == i) && !(q.1 + 1 == i && q.2.category == 2))
def lvR2 (i : Nat) (lv : List (Nat × Value)) : List (Nat × Value) := lv.filter (fun q => !(q.1 == i) && (!(q.1 == i + 1) && !(q.1 + 1 == i && q.2.category == 2)))
theorem lv_lookm {lv : List (Nat × Value)} {i : Nat} {v : Value} (h : lv.lookup i = some v) : (i, v) ∈ lv := by
  induction lv with
  | nil => cases h
  | cons q r ih =>
    obtain ⟨j, u⟩ := q
    rw [List.lookup_cons] at h
    by_cases hij : i = j
    · subst hij
      simp at h
      subst h
      exact List.mem_cons_self
    · have hb : (i == j) = false := by simpa using hij
      rw [hb] at h
      exact List.mem_cons_of_mem _ (ih h)
theorem lv_look {ls : Array Slot} {nL : Nat} {lv : List (Nat × Value)} {i : Nat} {v : Value} (h : lv_has ls nL lv) (hl : lv.lookup i = some v) : ls[i]? = some (.val v) := h.2.2 (i, v) (lv_lookm hl)
/-- fewer locals -/
def lvSub : List (Nat × Value) → List (Nat × Value) → Prop
  | [], _ => True
  | q :: r, lv => lv.lookup q.1 = some q.2 ∧ lvSub r lv
theorem lvSub.has {ls : Array Slot} {nL : Nat} {lv : List (Nat × Value)} (h : lv_has ls nL lv) : ∀ lv' : List (Nat × Value), lvSub lv' lv → lv_has ls nL lv'
  | [], _ => ⟨h.1, h.2.1, fun _ hq => by cases hq⟩
  | q :: r, hs => ⟨h.1, h.2.1, fun z hz => by
      rcases List.mem_cons.mp hz with rfl | hz
      · exact lv_look h hs.1
      · exact (lvSub.has h r hs.2).2.2 z hz⟩
abbrev Qe (κ : KX) (δ : EX) (A0 : Nat → Prop) (P : OC → va_W → Prop) : State → Prop := fun t => ∃ o, t.status = .running ∧ Ended t (xb κ) o ∧ Qx δ A0 P (xs κ) o t
/-- the contract of a method -/
def CT (l : Launch) (y : MethodName) (cw : Cond) (rm : Room) (δ : EX) (A0 : Nat → Prop) (ws : va_W) (av : List Value) (P : OC → va_W → Prop) : Prop :=
  MetFree l y (headSpec [cw] rm) (fun a U => a = av.toArray ∧ Fc δ A0 U ∧ va_P δ.1 vwCl ws U.heap) (fun _ _ _ _ _ => True) (fun _ st o t => Qx δ A0 P st o t)
/-- how the heap may have moved since the entry: by writing to A0 and to new cells; or not at all -/
def Kn (κ : KX) (A0 : Nat → Prop) : Heap → List Loc → Prop := fun H locs => va_S (fun q => A0 q ∨ (xs κ).heap.size ≤ q) (xs κ).heap H locs
def Kp (κ : KX) : Heap → List Loc → Prop := fun H locs => H = (xs κ).heap ∧ locs = []
/-- the walk -/
def G (κ : KX) (nL : Nat) (δ : EX) (K : Heap → List Loc → Prop) (Q : State → Prop) (cs sl : Nat) (ws : va_W) (lv : List (Nat × Value)) (st : List Value) (pc : Nat) : Prop :=
  ∀ (H : Heap) (locs : List Loc) (ls : Array Slot), lv_has ls nL lv → va_P δ.1 vwCl ws H → K H locs → kW κ H locs cs sl Q (F0 (xm κ) pc ls st)
/-- what holds of the invocation -/
def XO (κ : KX) (own : String) (cc : ByteArray) (nL : Nat) (rt : Option FieldType) (δ : EX) (rm : Room) (A0 : Nat → Prop) (hh : List (Nat × Nat × Nat × Nat)) : Prop :=
  (xp κ).tables.exec = Jvm.exec ∧ (xc κ).code = cc ∧ (xc κ).maxLocals = nL ∧ (xs κ).vm.findClass own = some (xm κ).cls ∧ (∀ w ∈ gl, w.before (xa κ) (xs κ) = true) ∧ (xM κ).locks = false ∧ (xM κ).sig.returnType = rt ∧ xR κ = rm ∧ va_K δ.1 vwCl (tyl δ.2) (xs κ) ∧ Fs A0 (xs κ) (xs κ).heap ∧ (xc κ).exceptionTable.toList.map (fun h => (h.startPc, h.endPc, h.handlerPc, h.catchType)) = hh ∧ (xl κ).stackTraces = false
variable {κ : KX} {own : String} {cc : ByteArray} {nL : Nat} {rt : Option FieldType} {δ : EX} {rm : Room} {A0 : Nat → Prop} {hh : List (Nat × Nat × Nat × Nat)} {K : Heap → List Loc → Prop} {Q : State → Prop} {cs sl : Nat} {ws : va_W} {lv : List (Nat × Value)} {st : List Value} {pc : Nat}
theorem XO.ml (X : XO κ own cc nL rt δ rm A0 hh) : (xc κ).maxLocals = nL := X.2.2.1
theorem XO.ow (X : XO κ own cc nL rt δ rm A0 hh) : (xs κ).vm.findClass own = some (xm κ).cls := X.2.2.2.1
theorem XO.wd (X : XO κ own cc nL rt δ rm A0 hh) {w : Cond} (h : w ∈ gl) : w.before (xa κ) (xs κ) = true := X.2.2.2.2.1 w h
theorem XO.locks (X : XO κ own cc nL rt δ rm A0 hh) : (xM κ).locks = false := X.2.2.2.2.2.1
theorem XO.ret (X : XO κ own cc nL rt δ rm A0 hh) : (xM κ).sig.returnType = rt := X.2.2.2.2.2.2.1
theorem XO.room (X : XO κ own cc nL rt δ rm A0 hh) : xR κ = rm := X.2.2.2.2.2.2.2.1
theorem XO.kk (X : XO κ own cc nL rt δ rm A0 hh) : va_K δ.1 vwCl (tyl δ.2) (xs κ) := X.2.2.2.2.2.2.2.2.1
theorem XO.Z (X : XO κ own cc nL rt δ rm A0 hh) : Fs A0 (xs κ) (xs κ).heap := X.2.2.2.2.2.2.2.2.2.1
theorem XO.hand (X : XO κ own cc nL rt δ rm A0 hh) : (xc κ).exceptionTable.toList.map (fun h => (h.startPc, h.endPc, h.handlerPc, h.catchType)) = hh := X.2.2.2.2.2.2.2.2.2.2.1
theorem XO.tr (X : XO κ own cc nL rt δ rm A0 hh) : (xl κ).stackTraces = false := X.2.2.2.2.2.2.2.2.2.2.2
/-- fewer locals; another name for the top -/
theorem g_sub {lv' : List (Nat × Value)} (hs : lvSub lv' lv) (n : G κ nL δ K Q cs sl ws lv' st pc) : G κ nL δ K Q cs sl ws lv st pc :=
  fun H locs ls h hP hK => n H locs ls (lvSub.has h lv' hs) hP hK
theorem g_ei {x y : Int32} (he : x = y) (n : G κ nL δ K Q cs sl ws lv (.int y :: st) pc) : G κ nL δ K Q cs sl ws lv (.int x :: st) pc := he ▸ n
theorem g_el {x y : Int64} (he : x = y) (n : G κ nL δ K Q cs sl ws lv (.long y :: st) pc) : G κ nL δ K Q cs sl ws lv (.long x :: st) pc := he ▸ n
theorem g_es {st' : List Value} (he : st = st') (n : G κ nL δ K Q cs sl ws lv st' pc) : G κ nL δ K Q cs sl ws lv st pc := he ▸ n
theorem g_ew {ws' : va_W} (he : ws = ws') (n : G κ nL δ K Q cs sl ws' lv st pc) : G κ nL δ K Q cs sl ws lv st pc := he ▸ n
end GB
end
section
section GR
variable {κ : KX} {own : String} {cc : ByteArray} {nL : Nat} {rt : Option FieldType} {δ : EX} {rm : Room} {A0 : Nat → Prop} {hh : List (Nat × Nat × Nat × Nat)} {K : Heap → List Loc → Prop} {Q : State → Prop} {cs sl : Nat} {ws : va_W} {lv : List (Nat × Value)} {st : List Value} {pc : Nat}
theorem g_iconst (X : XO κ own cc nL rt δ rm A0 hh) {i : Int} {v : Int32} (hd : decode cc pc = .ok (.iconst i, 1)) (hv : Int32.ofInt i = v) (n : G κ nL δ K Q cs sl ws lv (.int v :: st) (pc + 1)) : G κ nL δ K Q cs sl ws lv (st) pc :=
  fun H locs ls h hP hK => lv_iconst X.1 X.2.1 hd hv (n H locs ls h hP hK)
theorem g_bipush (X : XO κ own cc nL rt δ rm A0 hh) {i : Int} {v : Int32} (hd : decode cc pc = .ok (.bipush i, 2)) (hv : (Int8.ofInt i).toInt32 = v) (n : G κ nL δ K Q cs sl ws lv (.int v :: st) (pc + 2)) : G κ nL δ K Q cs sl ws lv (st) pc :=
  fun H locs ls h hP hK => lv_bipush X.1 X.2.1 hd hv (n H locs ls h hP hK)
theorem g_sipush (X : XO κ own cc nL rt δ rm A0 hh) {i : Int} {v : Int32} (hd : decode cc pc = .ok (.sipush i, 3)) (hv : (Int16.ofInt i).toInt32 = v) (n : G κ nL δ K Q cs sl ws lv (.int v :: st) (pc + 3)) : G κ nL δ K Q cs sl ws lv (st) pc :=
  fun H locs ls h hP hK => lv_sipush X.1 X.2.1 hd hv (n H locs ls h hP hK)
theorem g_lconst (X : XO κ own cc nL rt δ rm A0 hh) {i : Fin 2} {v : Int64} (hd : decode cc pc = .ok (.lconst i, 1)) (hv : Int64.ofNat (i : Nat) = v) (n : G κ nL δ K Q cs sl ws lv (.long v :: st) (pc + 1)) : G κ nL δ K Q cs sl ws lv (st) pc :=
  fun H locs ls h hP hK => lv_lconst X.1 X.2.1 hd hv (n H locs ls h hP hK)
theorem g_iload_n (X : XO κ own cc nL rt δ rm A0 hh) (i : Nat) {k : Fin 4} {x : Int32} (hd : decode cc pc = .ok (.iload_n k, 1)) (hi : (k : Nat) = i) (hl : lv.lookup i = some (.int x)) (n : G κ nL δ K Q cs sl ws lv (.int x :: st) (pc + 1)) : G κ nL δ K Q cs sl ws lv (st) pc :=
  fun H locs ls h hP hK => lv_iload_n X.1 X.2.1 hd hi (lv_look h hl) (n H locs ls h hP hK)
theorem g_iload (X : XO κ own cc nL rt δ rm A0 hh) {k : Nat} {x : Int32} (hd : decode cc pc = .ok (.iload k, 2)) (hl : lv.lookup k = some (.int x)) (n : G κ nL δ K Q cs sl ws lv (.int x :: st) (pc + 2)) : G κ nL δ K Q cs sl ws lv (st) pc :=
  fun H locs ls h hP hK => lv_iload X.1 X.2.1 hd (lv_look h hl) (n H locs ls h hP hK)
theorem g_istore_n (X : XO κ own cc nL rt δ rm A0 hh) (i : Nat) {k : Fin 4} {x : Int32} (hd : decode cc pc = .ok (.istore_n k, 1)) (hi : (k : Nat) = i) (hn : i < nL) (n : G κ nL δ K Q cs sl ws ((i, Value.int x) :: lvR1 i lv) st (pc + 1)) : G κ nL δ K Q cs sl ws lv (.int x :: st) pc :=
  fun H locs ls h hP hK => lv_istore_n X.1 X.2.1 hd hi h hn rfl (fun ls' h' => n H locs ls' h' hP hK)
theorem g_istore (X : XO κ own cc nL rt δ rm A0 hh) {k : Nat} {x : Int32} (hd : decode cc pc = .ok (.istore k, 2)) (hn : k < nL) (n : G κ nL δ K Q cs sl ws ((k, Value.int x) :: lvR1 k lv) st (pc + 2)) : G κ nL δ K Q cs sl ws lv (.int x :: st) pc :=
  fun H locs ls h hP hK => lv_istore X.1 X.2.1 hd h hn rfl (fun ls' h' => n H locs ls' h' hP hK)
theorem g_lload_n (X : XO κ own cc nL rt δ rm A0 hh) (i : Nat) {k : Fin 4} {x : Int64} (hd : decode cc pc = .ok (.lload_n k, 1)) (hi : (k : Nat) = i) (hl : lv.lookup i = some (.long x)) (n : G κ nL δ K Q cs sl ws lv (.long x :: st) (pc + 1)) : G κ nL δ K Q cs sl ws lv (st) pc :=
  fun H locs ls h hP hK => lv_lload_n X.1 X.2.1 hd hi (lv_look h hl) (n H locs ls h hP hK)
theorem g_lload (X : XO κ own cc nL rt δ rm A0 hh) {k : Nat} {x : Int64} (hd : decode cc pc = .ok (.lload k, 2)) (hl : lv.lookup k = some (.long x)) (n : G κ nL δ K Q cs sl ws lv (.long x :: st) (pc + 2)) : G κ nL δ K Q cs sl ws lv (st) pc :=
  fun H locs ls h hP hK => lv_lload X.1 X.2.1 hd (lv_look h hl) (n H locs ls h hP hK)
theorem g_lstore_n (X : XO κ own cc nL rt δ rm A0 hh) (i : Nat) {k : Fin 4} {x : Int64} (hd : decode cc pc = .ok (.lstore_n k, 1)) (hi : (k : Nat) = i) (hn : i + 1 < nL) (n : G κ nL δ K Q cs sl ws ((i, Value.long x) :: lvR2 i lv) st (pc + 1)) : G κ nL δ K Q cs sl ws lv (.long x :: st) pc :=
  fun H locs ls h hP hK => lv_lstore_n X.1 X.2.1 hd hi h hn rfl (fun ls' h' => n H locs ls' h' hP hK)
theorem g_lstore (X : XO κ own cc nL rt δ rm A0 hh) {k : Nat} {x : Int64} (hd : decode cc pc = .ok (.lstore k, 2)) (hn : k + 1 < nL) (n : G κ nL δ K Q cs sl ws ((k, Value.long x) :: lvR2 k lv) st (pc + 2)) : G κ nL δ K Q cs sl ws lv (.long x :: st) pc :=
  fun H locs ls h hP hK => lv_lstore X.1 X.2.1 hd h hn rfl (fun ls' h' => n H locs ls' h' hP hK)
theorem g_aload_n (X : XO κ own cc nL rt δ rm A0 hh) (i : Nat) {k : Fin 4} {x : Nat} (hd : decode cc pc = .ok (.aload_n k, 1)) (hi : (k : Nat) = i) (hl : lv.lookup i = some (.ref x)) (n : G κ nL δ K Q cs sl ws lv (.ref x :: st) (pc + 1)) : G κ nL δ K Q cs sl ws lv (st) pc :=
  fun H locs ls h hP hK => lv_aload_n X.1 X.2.1 hd hi (lv_look h hl) (n H locs ls h hP hK)
theorem g_aload (X : XO κ own cc nL rt δ rm A0 hh) {k : Nat} {x : Nat} (hd : decode cc pc = .ok (.aload k, 2)) (hl : lv.lookup k = some (.ref x)) (n : G κ nL δ K Q cs sl ws lv (.ref x :: st) (pc + 2)) : G κ nL δ K Q cs sl ws lv (st) pc :=
  fun H locs ls h hP hK => lv_aload X.1 X.2.1 hd (lv_look h hl) (n H locs ls h hP hK)
theorem g_astore_n (X : XO κ own cc nL rt δ rm A0 hh) (i : Nat) {k : Fin 4} {x : Nat} (hd : decode cc pc = .ok (.astore_n k, 1)) (hi : (k : Nat) = i) (hn : i < nL) (n : G κ nL δ K Q cs sl ws ((i, Value.ref x) :: lvR1 i lv) st (pc + 1)) : G κ nL δ K Q cs sl ws lv (.ref x :: st) pc :=
  fun H locs ls h hP hK => lv_astore_n X.1 X.2.1 hd hi h hn rfl (fun ls' h' => n H locs ls' h' hP hK)
theorem g_astore (X : XO κ own cc nL rt δ rm A0 hh) {k : Nat} {x : Nat} (hd : decode cc pc = .ok (.astore k, 2)) (hn : k < nL) (n : G κ nL δ K Q cs sl ws ((k, Value.ref x) :: lvR1 k lv) st (pc + 2)) : G κ nL δ K Q cs sl ws lv (.ref x :: st) pc :=
  fun H locs ls h hP hK => lv_astore X.1 X.2.1 hd h hn rfl (fun ls' h' => n H locs ls' h' hP hK)
theorem g_iadd (X : XO κ own cc nL rt δ rm A0 hh) {x y : Int32} (hd : decode cc pc = .ok (.iadd, 1)) (n : G κ nL δ K Q cs sl ws lv (.int (x + y) :: st) (pc + 1)) : G κ nL δ K Q cs sl ws lv (.int y :: .int x :: st) pc :=
  fun H locs ls h hP hK => lv_iadd X.1 X.2.1 hd (n H locs ls h hP hK)
theorem g_isub (X : XO κ own cc nL rt δ rm A0 hh) {x y : Int32} (hd : decode cc pc = .ok (.isub, 1)) (n : G κ nL δ K Q cs sl ws lv (.int (x - y) :: st) (pc + 1)) : G κ nL δ K Q cs sl ws lv (.int y :: .int x :: st) pc :=
  fun H locs ls h hP hK => lv_isub X.1 X.2.1 hd (n H locs ls h hP hK)
theorem g_imul (X : XO κ own cc nL rt δ rm A0 hh) {x y : Int32} (hd : decode cc pc = .ok (.imul, 1)) (n : G κ nL δ K Q cs sl ws lv (.int (x * y) :: st) (pc + 1)) : G κ nL δ K Q cs sl ws lv (.int y :: .int x :: st) pc :=
  fun H locs ls h hP hK => lv_imul X.1 X.2.1 hd (n H locs ls h hP hK)
theorem g_iand (X : XO κ own cc nL rt δ rm A0 hh) {x y : Int32} (hd : decode cc pc = .ok (.iand, 1)) (n : G κ nL δ K Q cs sl ws lv (.int (x &&& y) :: st) (pc + 1)) : G κ nL δ K Q cs sl ws lv (.int y :: .int x :: st) pc :=
  fun H locs ls h hP hK => lv_iand X.1 X.2.1 hd (n H locs ls h hP hK)
theorem g_ior (X : XO κ own cc nL rt δ rm A0 hh) {x y : Int32} (hd : decode cc pc = .ok (.ior, 1)) (n : G κ nL δ K Q cs sl ws lv (.int (x ||| y) :: st) (pc + 1)) : G κ nL δ K Q cs sl ws lv (.int y :: .int x :: st) pc :=
  fun H locs ls h hP hK => lv_ior X.1 X.2.1 hd (n H locs ls h hP hK)
theorem g_idiv (X : XO κ own cc nL rt δ rm A0 hh) {x y : Int32} (hd : decode cc pc = .ok (.idiv, 1)) (hne : ¬ y = 0) (n : G κ nL δ K Q cs sl ws lv (.int (x / y) :: st) (pc + 1)) : G κ nL δ K Q cs sl ws lv (.int y :: .int x :: st) pc :=
  fun H locs ls h hP hK => lv_idiv X.1 X.2.1 hd hne (n H locs ls h hP hK)
theorem g_irem (X : XO κ own cc nL rt δ rm A0 hh) {x y : Int32} (hd : decode cc pc = .ok (.irem, 1)) (hne : ¬ y = 0) (n : G κ nL δ K Q cs sl ws lv (.int (x - x / y * y) :: st) (pc + 1)) : G κ nL δ K Q cs sl ws lv (.int y :: .int x :: st) pc :=
  fun H locs ls h hP hK => lv_irem X.1 X.2.1 hd hne (n H locs ls h hP hK)
theorem g_ineg (X : XO κ own cc nL rt δ rm A0 hh) {x : Int32} (hd : decode cc pc = .ok (.ineg, 1)) (n : G κ nL δ K Q cs sl ws lv (.int (-x) :: st) (pc + 1)) : G κ nL δ K Q cs sl ws lv (.int x :: st) pc :=
  fun H locs ls h hP hK => lv_ineg X.1 X.2.1 hd (n H locs ls h hP hK)
theorem g_ladd (X : XO κ own cc nL rt δ rm A0 hh) {x y : Int64} (hd : decode cc pc = .ok (.ladd, 1)) (n : G κ nL δ K Q cs sl ws lv (.long (x + y) :: st) (pc + 1)) : G κ nL δ K Q cs sl ws lv (.long y :: .long x :: st) pc :=
  fun H locs ls h hP hK => lv_ladd X.1 X.2.1 hd (n H locs ls h hP hK)
theorem g_lsub (X : XO κ own cc nL rt δ rm A0 hh) {x y : Int64} (hd : decode cc pc = .ok (.lsub, 1)) (n : G κ nL δ K Q cs sl ws lv (.long (x - y) :: st) (pc + 1)) : G κ nL δ K Q cs sl ws lv (.long y :: .long x :: st) pc :=
  fun H locs ls h hP hK => lv_lsub X.1 X.2.1 hd (n H locs ls h hP hK)
theorem g_lmul (X : XO κ own cc nL rt δ rm A0 hh) {x y : Int64} (hd : decode cc pc = .ok (.lmul, 1)) (n : G κ nL δ K Q cs sl ws lv (.long (x * y) :: st) (pc + 1)) : G κ nL δ K Q cs sl ws lv (.long y :: .long x :: st) pc :=
  fun H locs ls h hP hK => lv_lmul X.1 X.2.1 hd (n H locs ls h hP hK)
theorem g_land (X : XO κ own cc nL rt δ rm A0 hh) {x y : Int64} (hd : decode cc pc = .ok (.land, 1)) (n : G κ nL δ K Q cs sl ws lv (.long (x &&& y) :: st) (pc + 1)) : G κ nL δ K Q cs sl ws lv (.long y :: .long x :: st) pc :=
  fun H locs ls h hP hK => lv_land X.1 X.2.1 hd (n H locs ls h hP hK)
theorem g_lor (X : XO κ own cc nL rt δ rm A0 hh) {x y : Int64} (hd : decode cc pc = .ok (.lor, 1)) (n : G κ nL δ K Q cs sl ws lv (.long (x ||| y) :: st) (pc + 1)) : G κ nL δ K Q cs sl ws lv (.long y :: .long x :: st) pc :=
  fun H locs ls h hP hK => lv_lor X.1 X.2.1 hd (n H locs ls h hP hK)
theorem g_ldiv (X : XO κ own cc nL rt δ rm A0 hh) {x y : Int64} (hd : decode cc pc = .ok (.ldiv, 1)) (hne : ¬ y = 0) (n : G κ nL δ K Q cs sl ws lv (.long (x / y) :: st) (pc + 1)) : G κ nL δ K Q cs sl ws lv (.long y :: .long x :: st) pc :=
  fun H locs ls h hP hK => lv_ldiv X.1 X.2.1 hd hne (n H locs ls h hP hK)
theorem g_lneg (X : XO κ own cc nL rt δ rm A0 hh) {x : Int64} (hd : decode cc pc = .ok (.lneg, 1)) (n : G κ nL δ K Q cs sl ws lv (.long (-x) :: st) (pc + 1)) : G κ nL δ K Q cs sl ws lv (.long x :: st) pc :=
  fun H locs ls h hP hK => lv_lneg X.1 X.2.1 hd (n H locs ls h hP hK)
theorem g_i2l (X : XO κ own cc nL rt δ rm A0 hh) {x : Int32} (hd : decode cc pc = .ok (.i2l, 1)) (n : G κ nL δ K Q cs sl ws lv (.long x.toInt64 :: st) (pc + 1)) : G κ nL δ K Q cs sl ws lv (.int x :: st) pc :=
  fun H locs ls h hP hK => lv_i2l X.1 X.2.1 hd rfl (n H locs ls h hP hK)
theorem g_l2i (X : XO κ own cc nL rt δ rm A0 hh) {x : Int64} (hd : decode cc pc = .ok (.l2i, 1)) (n : G κ nL δ K Q cs sl ws lv (.int x.toInt32 :: st) (pc + 1)) : G κ nL δ K Q cs sl ws lv (.long x :: st) pc :=
  fun H locs ls h hP hK => lv_l2i X.1 X.2.1 hd rfl (n H locs ls h hP hK)
theorem g_lshl (X : XO κ own cc nL rt δ rm A0 hh) {x : Int64} {y : Int32} (hd : decode cc pc = .ok (.lshl, 1)) (n : G κ nL δ K Q cs sl ws lv (.long (x <<< (y.toInt64 &&& 63)) :: st) (pc + 1)) : G κ nL δ K Q cs sl ws lv (.int y :: .long x :: st) pc :=
  fun H locs ls h hP hK => lv_lshl X.1 X.2.1 hd rfl (n H locs ls h hP hK)
theorem g_lcmp (X : XO κ own cc nL rt δ rm A0 hh) {x y : Int64} (hd : decode cc pc = .ok (.lcmp, 1)) (n : G κ nL δ K Q cs sl ws lv (.int (lg_cmp x y) :: st) (pc + 1)) : G κ nL δ K Q cs sl ws lv (.long y :: .long x :: st) pc :=
  fun H locs ls h hP hK => W.lcmp X.1 X.2.1 hd (n H locs ls h hP hK)
theorem g_dup (X : XO κ own cc nL rt δ rm A0 hh) {v : Value} (hd : decode cc pc = .ok (.dup, 1)) (hv : v.category = 1) (n : G κ nL δ K Q cs sl ws lv (v :: v :: st) (pc + 1)) : G κ nL δ K Q cs sl ws lv (v :: st) pc :=
  fun H locs ls h hP hK => lv_dup X.1 X.2.1 hd hv (n H locs ls h hP hK)
theorem g_pop (X : XO κ own cc nL rt δ rm A0 hh) {v : Value} (hd : decode cc pc = .ok (.pop, 1)) (hv : v.category = 1) (n : G κ nL δ K Q cs sl ws lv (st) (pc + 1)) : G κ nL δ K Q cs sl ws lv (v :: st) pc :=
  fun H locs ls h hP hK => lv_pop X.1 X.2.1 hd hv (n H locs ls h hP hK)
theorem g_dup_x1 (X : XO κ own cc nL rt δ rm A0 hh) {v u : Value} (hd : decode cc pc = .ok (.dup_x1, 1)) (hv : v.category = 1) (hu : u.category = 1) (n : G κ nL δ K Q cs sl ws lv (v :: u :: v :: st) (pc + 1)) : G κ nL δ K Q cs sl ws lv (v :: u :: st) pc :=
  fun H locs ls h hP hK => lv_dup_x1 X.1 X.2.1 hd hv hu (n H locs ls h hP hK)
theorem g_dup2_11 (X : XO κ own cc nL rt δ rm A0 hh) {v u : Value} (hd : decode cc pc = .ok (.dup2, 1)) (hv : v.category = 1) (hu : u.category = 1) (n : G κ nL δ K Q cs sl ws lv (v :: u :: v :: u :: st) (pc + 1)) : G κ nL δ K Q cs sl ws lv (v :: u :: st) pc :=
  fun H locs ls h hP hK => lv_dup2_11 X.1 X.2.1 hd hv hu (n H locs ls h hP hK)
theorem g_dup2_2 (X : XO κ own cc nL rt δ rm A0 hh) {v : Value} (hd : decode cc pc = .ok (.dup2, 1)) (hv : v.category = 2) (n : G κ nL δ K Q cs sl ws lv (v :: v :: st) (pc + 1)) : G κ nL δ K Q cs sl ws lv (v :: st) pc :=
  fun H locs ls h hP hK => lv_dup2_2 X.1 X.2.1 hd hv (n H locs ls h hP hK)
theorem g_pop2_2 (X : XO κ own cc nL rt δ rm A0 hh) {v : Value} (hd : decode cc pc = .ok (.pop2, 1)) (hv : v.category = 2) (n : G κ nL δ K Q cs sl ws lv (st) (pc + 1)) : G κ nL δ K Q cs sl ws lv (v :: st) pc :=
  fun H locs ls h hP hK => lv_pop2_2 X.1 X.2.1 hd hv (n H locs ls h hP hK)
theorem g_if_eq (X : XO κ own cc nL rt δ rm A0 hh) {x : Int32} {off : Int} (tgt : Nat) (hd : decode cc pc = .ok (.ifCond .eq off, 3)) (ht : (pc : Int) + off = (tgt : Int)) (kt : x = 0 → G κ nL δ K Q cs sl ws lv st tgt) (kf : ¬ x = 0 → G κ nL δ K Q cs sl ws lv st (pc + 3)) : G κ nL δ K Q cs sl ws lv (.int x :: st) pc :=
  fun H locs ls h hP hK => lv_if_eq X.1 X.2.1 hd ht (fun q => kt q H locs ls h hP hK) (fun q => kf q H locs ls h hP hK)
theorem g_icmp_eq (X : XO κ own cc nL rt δ rm A0 hh) {x y : Int32} {off : Int} (tgt : Nat) (hd : decode cc pc = .ok (.if_icmp .eq off, 3)) (ht : (pc : Int) + off = (tgt : Int)) (kt : x = y → G κ nL δ K Q cs sl ws lv st tgt) (kf : ¬ x = y → G κ nL δ K Q cs sl ws lv st (pc + 3)) : G κ nL δ K Q cs sl ws lv (.int y :: .int x :: st) pc :=
  fun H locs ls h hP hK => lv_icmp_eq X.1 X.2.1 hd ht (fun q => kt q H locs ls h hP hK) (fun q => kf q H locs ls h hP hK)
theorem g_if_ne (X : XO κ own cc nL rt δ rm A0 hh) {x : Int32} {off : Int} (tgt : Nat) (hd : decode cc pc = .ok (.ifCond .ne off, 3)) (ht : (pc : Int) + off = (tgt : Int)) (kt : ¬ x = 0 → G κ nL δ K Q cs sl ws lv st tgt) (kf : x = 0 → G κ nL δ K Q cs sl ws lv st (pc + 3)) : G κ nL δ K Q cs sl ws lv (.int x :: st) pc :=
  fun H locs ls h hP hK => lv_if_ne X.1 X.2.1 hd ht (fun q => kt q H locs ls h hP hK) (fun q => kf q H locs ls h hP hK)
theorem g_icmp_ne (X : XO κ own cc nL rt δ rm A0 hh) {x y : Int32} {off : Int} (tgt : Nat) (hd : decode cc pc = .ok (.if_icmp .ne off, 3)) (ht : (pc : Int) + off = (tgt : Int)) (kt : ¬ x = y → G κ nL δ K Q cs sl ws lv st tgt) (kf : x = y → G κ nL δ K Q cs sl ws lv st (pc + 3)) : G κ nL δ K Q cs sl ws lv (.int y :: .int x :: st) pc :=
  fun H locs ls h hP hK => lv_icmp_ne X.1 X.2.1 hd ht (fun q => kt q H locs ls h hP hK) (fun q => kf q H locs ls h hP hK)
theorem g_if_lt (X : XO κ own cc nL rt δ rm A0 hh) {x : Int32} {off : Int} (tgt : Nat) (hd : decode cc pc = .ok (.ifCond .lt off, 3)) (ht : (pc : Int) + off = (tgt : Int)) (kt : x < 0 → G κ nL δ K Q cs sl ws lv st tgt) (kf : ¬ x < 0 → G κ nL δ K Q cs sl ws lv st (pc + 3)) : G κ nL δ K Q cs sl ws lv (.int x :: st) pc :=
  fun H locs ls h hP hK => lv_if_lt X.1 X.2.1 hd ht (fun q => kt q H locs ls h hP hK) (fun q => kf q H locs ls h hP hK)
theorem g_icmp_lt (X : XO κ own cc nL rt δ rm A0 hh) {x y : Int32} {off : Int} (tgt : Nat) (hd : decode cc pc = .ok (.if_icmp .lt off, 3)) (ht : (pc : Int) + off = (tgt : Int)) (kt : x < y → G κ nL δ K Q cs sl ws lv st tgt) (kf : ¬ x < y → G κ nL δ K Q cs sl ws lv st (pc + 3)) : G κ nL δ K Q cs sl ws lv (.int y :: .int x :: st) pc :=
  fun H locs ls h hP hK => lv_icmp_lt X.1 X.2.1 hd ht (fun q => kt q H locs ls h hP hK) (fun q => kf q H locs ls h hP hK)
theorem g_if_ge (X : XO κ own cc nL rt δ rm A0 hh) {x : Int32} {off : Int} (tgt : Nat) (hd : decode cc pc = .ok (.ifCond .ge off, 3)) (ht : (pc : Int) + off = (tgt : Int)) (kt : 0 ≤ x → G κ nL δ K Q cs sl ws lv st tgt) (kf : ¬ 0 ≤ x → G κ nL δ K Q cs sl ws lv st (pc + 3)) : G κ nL δ K Q cs sl ws lv (.int x :: st) pc :=
  fun H locs ls h hP hK => lv_if_ge X.1 X.2.1 hd ht (fun q => kt q H locs ls h hP hK) (fun q => kf q H locs ls h hP hK)
theorem g_icmp_ge (X : XO κ own cc nL rt δ rm A0 hh) {x y : Int32} {off : Int} (tgt : Nat) (hd : decode cc pc = .ok (.if_icmp .ge off, 3)) (ht : (pc : Int) + off = (tgt : Int)) (kt : y ≤ x → G κ nL δ K Q cs sl ws lv st tgt) (kf : ¬ y ≤ x → G κ nL δ K Q cs sl ws lv st (pc + 3)) : G κ nL δ K Q cs sl ws lv (.int y :: .int x :: st) pc :=
  fun H locs ls h hP hK => lv_icmp_ge X.1 X.2.1 hd ht (fun q => kt q H locs ls h hP hK) (fun q => kf q H locs ls h hP hK)
theorem g_if_gt (X : XO κ own cc nL rt δ rm A0 hh) {x : Int32} {off : Int} (tgt : Nat) (hd : decode cc pc = .ok (.ifCond .gt off, 3)) (ht : (pc : Int) + off = (tgt : Int)) (kt : 0 < x → G κ nL δ K Q cs sl ws lv st tgt) (kf : ¬ 0 < x → G κ nL δ K Q cs sl ws lv st (pc + 3)) : G κ nL δ K Q cs sl ws lv (.int x :: st) pc :=
  fun H locs ls h hP hK => lv_if_gt X.1 X.2.1 hd ht (fun q => kt q H locs ls h hP hK) (fun q => kf q H locs ls h hP hK)
theorem g_icmp_gt (X : XO κ own cc nL rt δ rm A0 hh) {x y : Int32} {off : Int} (tgt : Nat) (hd : decode cc pc = .ok (.if_icmp .gt off, 3)) (ht : (pc : Int) + off = (tgt : Int)) (kt : y < x → G κ nL δ K Q cs sl ws lv st tgt) (kf : ¬ y < x → G κ nL δ K Q cs sl ws lv st (pc + 3)) : G κ nL δ K Q cs sl ws lv (.int y :: .int x :: st) pc :=
  fun H locs ls h hP hK => lv_icmp_gt X.1 X.2.1 hd ht (fun q => kt q H locs ls h hP hK) (fun q => kf q H locs ls h hP hK)
theorem g_if_le (X : XO κ own cc nL rt δ rm A0 hh) {x : Int32} {off : Int} (tgt : Nat) (hd : decode cc pc = .ok (.ifCond .le off, 3)) (ht : (pc : Int) + off = (tgt : Int)) (kt : x ≤ 0 → G κ nL δ K Q cs sl ws lv st tgt) (kf : ¬ x ≤ 0 → G κ nL δ K Q cs sl ws lv st (pc + 3)) : G κ nL δ K Q cs sl ws lv (.int x :: st) pc :=
  fun H locs ls h hP hK => lv_if_le X.1 X.2.1 hd ht (fun q => kt q H locs ls h hP hK) (fun q => kf q H locs ls h hP hK)
theorem g_icmp_le (X : XO κ own cc nL rt δ rm A0 hh) {x y : Int32} {off : Int} (tgt : Nat) (hd : decode cc pc = .ok (.if_icmp .le off, 3)) (ht : (pc : Int) + off = (tgt : Int)) (kt : x ≤ y → G κ nL δ K Q cs sl ws lv st tgt) (kf : ¬ x ≤ y → G κ nL δ K Q cs sl ws lv st (pc + 3)) : G κ nL δ K Q cs sl ws lv (.int y :: .int x :: st) pc :=
  fun H locs ls h hP hK => lv_icmp_le X.1 X.2.1 hd ht (fun q => kt q H locs ls h hP hK) (fun q => kf q H locs ls h hP hK)
theorem g_goto (X : XO κ own cc nL rt δ rm A0 hh) {off : Int} (tgt : Nat) (hd : decode cc pc = .ok (.goto off, 3)) (ht : (pc : Int) + off = (tgt : Int)) (n : G κ nL δ K Q cs sl ws lv st tgt) : G κ nL δ K Q cs sl ws lv st pc :=
  fun H locs ls h hP hK => lv_goto X.1 X.2.1 hd ht (n H locs ls h hP hK)
theorem g_iinc (X : XO κ own cc nL rt δ rm A0 hh) {i : Nat} {a : Int} {x v : Int32} (hd : decode cc pc = .ok (.iinc i a, 3)) (hl : lv.lookup i = some (.int x)) (hv : x + Int32.ofInt a = v) (hn : i < nL) (n : G κ nL δ K Q cs sl ws ((i, Value.int v) :: lvR1 i lv) st (pc + 3)) : G κ nL δ K Q cs sl ws lv st pc :=
  fun H locs ls h hP hK => by
    obtain ⟨j, hj⟩ := List.getElem?_of_mem (lv_lookm hl)
    exact lv_iinc X.1 X.2.1 hd h hj hv hn rfl (fun ls' h' => n H locs ls' h' hP hK)
theorem g_ldc2 (X : XO κ own cc nL rt δ rm A0 hh) {i : Nat} {v : Int64} (hd : decode cc pc = .ok (.ldc2_w i, 3)) (hw : Cond.constantLong own i v ∈ gl) (n : G κ nL δ K Q cs sl ws lv (.long v :: st) (pc + 3)) : G κ nL δ K Q cs sl ws lv st pc :=
  fun H locs ls h hP hK => lv_ldc2 X.1 X.2.1 X.ow (X.wd hw) hd (n H locs ls h hP hK)
end GR
end
section
/-! fields and arrays -/
section GF
variable {κ : KX} {own : String} {cc : ByteArray} {nL : Nat} {rt : Option FieldType} {δ : EX} {rm : Room} {A0 : Nat → Prop} {hh : List (Nat × Nat × Nat × Nat)} {K : Heap → List Loc → Prop} {Q : State → Prop} {cs sl : Nat} {ws : va_W} {lv : List (Nat × Value)} {st : List Value} {pc : Nat}
theorem g_get (X : XO κ own cc nL rt δ rm A0 hh) {idx ci q0 k a : Nat} {fs : List Value} {C : String} {T : u_T} {N : Nat} {v : Value} (hin : ∀ w ∈ u_ws C T N, w ∈ gl) (hc : vwCl[ci]? = some (C, T, N)) (he : ws[q0]? = some (a, .inr (ci, fs))) (hk : k < N) (ho : (T k).1 = C) (hf : Cond.fieldLink own idx C (T k).2.1 (T k).2.2.1 ∈ gl) (hv : fs[k]? = some v) (hd : decode cc pc = .ok (.getfield idx, 3))
    (n : G κ nL δ K Q cs sl ws lv (v :: st) (pc + 3)) : G κ nL δ K Q cs sl ws lv (.ref a :: st) pc :=
  fun H locs ls h hP hK => va_get X.1 X.2.1 (fun w hw => X.wd hw) hin X.ow X.kk hP q0 he hc k hk (X.wd hf) (fun x hx => by rw [ho] at hx; exact hx) hv hd (n H locs ls h hP hK)
theorem g_put (X : XO κ own cc nL rt δ rm A0 hh) {idx ci q0 k a : Nat} {fs : List Value} {C : String} {T : u_T} {N : Nat} {v : Value} {ty0 : Nat → FieldType} {ty : FieldType} (hin : ∀ w ∈ u_ws C T N, w ∈ gl) (hc : vwCl[ci]? = some (C, T, N)) (hty : ∀ k, k < N → parseFieldDescriptor (T k).2.2.1 = some (ty0 k)) (hnm : ∀ a, a < N → ∀ b, b < N → a ≠ b → (T a).2.1 ≠ (T b).2.1)
    (hD : va_D (fun q => A0 q ∨ (xs κ).heap.size ≤ q) ws) (he : ws[q0]? = some (a, .inr (ci, fs))) (hk : k < N) (ho : (T k).1 = C) (hf : Cond.fieldLink own idx C (T k).2.1 (T k).2.2.1 ∈ gl) (hfin : (T k).2.2.2 = false) (hpt : parseFieldDescriptor (T k).2.2.1 = some ty) (hn : narrow ty v = v) (hfit : fits ty v = true) (hl : k < fs.length) (hd : decode cc pc = .ok (.putfield idx, 3))
    (n : G κ nL δ (Kn κ A0) Q cs sl (ws.set q0 (a, .inr (ci, fs.set k v))) lv st (pc + 3)) : G κ nL δ (Kn κ A0) Q cs sl ws lv (v :: .ref a :: st) pc :=
  fun H locs ls h hP hK => va_put X.1 X.2.1 (fun w hw => X.wd hw) hin ty0 hty hnm X.ow X.kk hP hD hK q0 he hc k hk (X.wd hf) (fun x hx => by rw [ho] at hx; exact hx) hfin hpt hn hfit hl hd (fun H1 locs1 h1 _ h3 => n H1 locs1 ls h h1 h3)
theorem g_iald (X : XO κ own cc nL rt δ rm A0 hh) {q0 a n j : Nat} {f : Nat → Int32} {i : Int32} (he : ws[q0]? = some (a, .inl (δ.2 0, n, .inl f))) (hi : i = nI j) (hj : j < n) (h31 : n < 2 ^ 31) (hd : decode cc pc = .ok (.iaload, 1)) (nx : G κ nL δ K Q cs sl ws lv (.int (f j) :: st) (pc + 1)) : G κ nL δ K Q cs sl ws lv (.int i :: .ref a :: st) pc := by
  subst hi
  exact fun H locs ls h hP hK => va_iald X.1 X.2.1 X.kk hP q0 0 he rfl (vp_in_nI hj h31) hd (by rw [nI_clamp (by omega)]; exact nx H locs ls h hP hK)
theorem g_lald (X : XO κ own cc nL rt δ rm A0 hh) {q0 a n j : Nat} {f : Nat → Int64} {i : Int32} (he : ws[q0]? = some (a, .inl (δ.2 1, n, .inr (.inl f)))) (hi : i = nI j) (hj : j < n) (h31 : n < 2 ^ 31) (hd : decode cc pc = .ok (.laload, 1)) (nx : G κ nL δ K Q cs sl ws lv (.long (f j) :: st) (pc + 1)) : G κ nL δ K Q cs sl ws lv (.int i :: .ref a :: st) pc := by
  subst hi
  exact fun H locs ls h hP hK => va_lald X.1 X.2.1 X.kk hP q0 1 he rfl (vp_in_nI hj h31) hd (by rw [nI_clamp (by omega)]; exact nx H locs ls h hP hK)
theorem g_zald (X : XO κ own cc nL rt δ rm A0 hh) {q0 a n j : Nat} {f : Nat → Int32} {i : Int32} (he : ws[q0]? = some (a, .inl (δ.2 2, n, .inl f))) (hi : i = nI j) (hj : j < n) (h31 : n < 2 ^ 31) (hd : decode cc pc = .ok (.baload, 1)) (nx : G κ nL δ K Q cs sl ws lv (.int (f j) :: st) (pc + 1)) : G κ nL δ K Q cs sl ws lv (.int i :: .ref a :: st) pc := by
  subst hi
  exact fun H locs ls h hP hK => va_zald X.1 X.2.1 X.kk hP q0 2 he rfl (vp_in_nI hj h31) hd (by rw [nI_clamp (by omega)]; exact nx H locs ls h hP hK)
theorem g_aald (X : XO κ own cc nL rt δ rm A0 hh) {q0 a n j b : Nat} {f : Nat → Option Nat} {i : Int32} (he : ws[q0]? = some (a, .inl (δ.2 3, n, .inr (.inr (.inr (.inr f)))))) (hi : i = nI j) (hj : j < n) (hb : f j = some b) (h31 : n < 2 ^ 31) (hd : decode cc pc = .ok (.aaload, 1)) (nx : G κ nL δ K Q cs sl ws lv (.ref b :: st) (pc + 1)) : G κ nL δ K Q cs sl ws lv (.int i :: .ref a :: st) pc := by
  subst hi
  exact fun H locs ls h hP hK => va_aldq X.1 X.2.1 X.kk hP q0 3 he rfl (vp_in_nI hj h31) hd (by rw [nI_clamp (by omega), hb]; exact nx H locs ls h hP hK)
theorem g_alen (X : XO κ own cc nL rt δ rm A0 hh) {q0 t0 a n : Nat} {ty : FieldType} {x : (Nat → Int32) ⊕ (Nat → Int64) ⊕ (Nat → UInt32) ⊕ (Nat → UInt64) ⊕ (Nat → Option Nat)} {cA : ClassId} (he : ws[q0]? = some (a, .inl (cA, n, x))) (ht : (tyl δ.2)[t0]? = some (cA, ty)) (hd : decode cc pc = .ok (.arraylength, 1)) (nx : G κ nL δ K Q cs sl ws lv (.int (nI n) :: st) (pc + 1)) : G κ nL δ K Q cs sl ws lv (.ref a :: st) pc :=
  fun H locs ls h hP hK => va_alen X.1 X.2.1 X.kk hP q0 t0 he ht rfl hd (nx H locs ls h hP hK)
theorem g_iast (X : XO κ own cc nL rt δ rm A0 hh) (hD : va_D (fun q => A0 q ∨ (xs κ).heap.size ≤ q) ws) {q0 a n j : Nat} {f : Nat → Int32} {i x : Int32} (he : ws[q0]? = some (a, .inl (δ.2 0, n, .inl f))) (hi : i = nI j) (hj : j < n) (h31 : n < 2 ^ 31) (hd : decode cc pc = .ok (.iastore, 1))
    (nx : G κ nL δ (Kn κ A0) Q cs sl (ws.set q0 (a, .inl (δ.2 0, n, .inl (upd f j x)))) lv st (pc + 1)) : G κ nL δ (Kn κ A0) Q cs sl ws lv (.int x :: .int i :: .ref a :: st) pc := by
  subst hi
  refine fun H locs ls h hP hK => va_iast X.1 X.2.1 X.kk hP hD hK q0 0 he rfl (vp_in_nI hj h31) hd (fun H1 locs1 h1 _ h3 => ?_)
  rw [nI_clamp (by omega)] at h1
  exact nx H1 locs1 ls h h1 h3
theorem g_last (X : XO κ own cc nL rt δ rm A0 hh) (hD : va_D (fun q => A0 q ∨ (xs κ).heap.size ≤ q) ws) {q0 a n j : Nat} {f : Nat → Int64} {i : Int32} {x : Int64} (he : ws[q0]? = some (a, .inl (δ.2 1, n, .inr (.inl f)))) (hi : i = nI j) (hj : j < n) (h31 : n < 2 ^ 31) (hd : decode cc pc = .ok (.lastore, 1))
    (nx : G κ nL δ (Kn κ A0) Q cs sl (ws.set q0 (a, .inl (δ.2 1, n, .inr (.inl (vp_updL f j x))))) lv st (pc + 1)) : G κ nL δ (Kn κ A0) Q cs sl ws lv (.long x :: .int i :: .ref a :: st) pc := by
  subst hi
  refine fun H locs ls h hP hK => va_last X.1 X.2.1 X.kk hP hD hK q0 1 he rfl (vp_in_nI hj h31) hd (fun H1 locs1 h1 _ h3 => ?_)
  rw [nI_clamp (by omega)] at h1
  exact nx H1 locs1 ls h h1 h3
theorem g_zast (X : XO κ own cc nL rt δ rm A0 hh) (hD : va_D (fun q => A0 q ∨ (xs κ).heap.size ≤ q) ws) {q0 a n j : Nat} {f : Nat → Int32} {i x y : Int32} (he : ws[q0]? = some (a, .inl (δ.2 2, n, .inl f))) (hi : i = nI j) (hj : j < n) (h31 : n < 2 ^ 31) (hx : vp_nar .boolean x = y) (hd : decode cc pc = .ok (.bastore, 1))
    (nx : G κ nL δ (Kn κ A0) Q cs sl (ws.set q0 (a, .inl (δ.2 2, n, .inl (upd f j y)))) lv st (pc + 1)) : G κ nL δ (Kn κ A0) Q cs sl ws lv (.int x :: .int i :: .ref a :: st) pc := by
  subst hi
  subst hx
  refine fun H locs ls h hP hK => va_zast X.1 X.2.1 X.kk hP hD hK q0 2 he rfl (vp_in_nI hj h31) hd (fun H1 locs1 h1 _ h3 => ?_)
  rw [nI_clamp (by omega)] at h1
  exact nx H1 locs1 ls h h1 h3
theorem g_aast (X : XO κ own cc nL rt δ rm A0 hh) (hD : va_D (fun q => A0 q ∨ (xs κ).heap.size ≤ q) ws) {q0 qk ci a n j v : Nat} {f : Nat → Option Nat} {vs : List Value} {T : u_T} {N : Nat} {i : Int32} (he : ws[q0]? = some (a, .inl (δ.2 3, n, .inr (.inr (.inr (.inr f)))))) (hv : ws[qk]? = some (v, .inr (ci, vs))) (hc : vwCl[ci]? = some (R_M, T, N)) (hi : i = nI j) (hj : j < n) (h31 : n < 2 ^ 31) (hd : decode cc pc = .ok (.aastore, 1))
    (nx : G κ nL δ (Kn κ A0) Q cs sl (ws.set q0 (a, .inl (δ.2 3, n, .inr (.inr (.inr (.inr (va_up f j (some v)))))))) lv st (pc + 1)) : G κ nL δ (Kn κ A0) Q cs sl ws lv (.ref v :: .int i :: .ref a :: st) pc := by
  subst hi
  refine fun H locs ls h hP hK => va_astq X.1 X.2.1 X.kk hP hD hK q0 3 qk ci he rfl hv hc (vp_in_nI hj h31) hd (fun H1 locs1 h1 _ h3 => ?_)
  rw [nI_clamp (by omega)] at h1
  exact nx H1 locs1 ls h h1 h3
end GF
end
section
/-! returns, contracts, calls -/
section GC
variable {κ : KX} {own : String} {cc : ByteArray} {nL : Nat} {rt : Option FieldType} {δ : EX} {rm : Room} {A0 : Nat → Prop} {hh : List (Nat × Nat × Nat × Nat)} {K : Heap → List Loc → Prop} {Q : State → Prop} {cs sl : Nat} {ws : va_W} {lv : List (Nat × Value)} {st : List Value} {pc : Nat} {P : OC → va_W → Prop}
theorem W_mono {p : Program} {l : Launch} {e : Env} {R : Room} {s : State} {m : MethodId} {args : Array Value} {below : List Frame} {meth : Method} {c : Code} {H : Heap} {locs : List Loc} {Q Q' : State → Prop} {g : JFrame} (hQ : ∀ t, Q t → Q' t) (h : W p l e R s m args below meth c H locs cs sl Q g) : W p l e R s m args below meth c H locs cs sl Q' g := fun T hT X => by
  obtain ⟨t, a, b⟩ := h T hT X
  exact ⟨t, a, hQ t b⟩
/-- K lets the heap move only where A0 says -/
def KOk (κ : KX) (A0 : Nat → Prop) (K : Heap → List Loc → Prop) : Prop := ∀ H locs, K H locs → Kn κ A0 H locs
theorem KOk.n : KOk κ A0 (Kn κ A0) := fun _ _ h => h
theorem KOk.p : KOk κ A0 (Kp κ) := fun _ _ h => by
  obtain ⟨rfl, rfl⟩ := h
  exact va_S.rf
theorem Kn.keep {H : Heap} {locs : List Loc} (h : Kn κ A0 H locs) : ∀ q : Nat, q < (xs κ).heap.size → ¬ A0 q → H[q]? = (xs κ).heap[q]? := fun q h1 h2 => h.2.1 q h1 (fun z => by
  rcases z with z | z
  · exact h2 z
  · omega)
theorem Qe_ret {H : Heap} {locs : List Loc} {v : Option Value} {t : State} (hKn : Kn κ A0 H locs) (hp : P (.inr v) ws) (hP : va_P δ.1 vwCl ws H)
    (h : MQ (xb κ) (fun _ _ o t => o = .returned v ∧ t.heap = H) (xa κ) (xs κ) 0 0 (fun q => A0 q ∨ (xs κ).heap.size ≤ q) t) : Qe κ δ A0 P t := by
  obtain ⟨o, h1, h2, ⟨rfl, rfl⟩, L, ⟨h3, h4, h5⟩, h6⟩ := h
  exact ⟨_, h1, h2, .inr v, ws, L, 0, 0, hp, hP, hKn.keep, h4, h5, h6, rfl, rfl, rfl⟩
theorem g_iret (X : XO κ own cc nL (some .int) δ rm A0 hh) (hK : KOk κ A0 K) {x : Int32} (hd : decode cc pc = .ok (.ireturn, 1)) (hp : P (.inr (some (.int x))) ws) : G κ nL δ K (Qe κ δ A0 P) 0 0 ws lv [.int x] pc :=
  fun H locs ls _ hP hk => W_mono (fun _ => Qe_ret (hK H locs hk) hp hP) (W.iret X.1 X.2.1 X.ret (fun t ht _ => ⟨rfl, ht⟩) (hK H locs hk).2.2 hd X.locks)
theorem g_lret (X : XO κ own cc nL (some .long) δ rm A0 hh) (hK : KOk κ A0 K) {x : Int64} (hd : decode cc pc = .ok (.lreturn, 1)) (hp : P (.inr (some (.long x))) ws) : G κ nL δ K (Qe κ δ A0 P) 0 0 ws lv [.long x] pc :=
  fun H locs ls _ hP hk => W_mono (fun _ => Qe_ret (hK H locs hk) hp hP) (W.lret X.1 X.2.1 X.ret (fun t ht _ => ⟨rfl, ht⟩) (hK H locs hk).2.2 hd X.locks)
theorem g_zret (X : XO κ own cc nL (some .boolean) δ rm A0 hh) (hK : KOk κ A0 K) {x : Int32} (hx : narrow .boolean (.int x) = .int x) (hd : decode cc pc = .ok (.ireturn, 1)) (hp : P (.inr (some (.int x))) ws) : G κ nL δ K (Qe κ δ A0 P) 0 0 ws lv [.int x] pc :=
  fun H locs ls _ hP hk => W_mono (fun _ => Qe_ret (hK H locs hk) hp hP) (W.zret X.1 X.2.1 X.ret hx (fun t ht _ => ⟨rfl, ht⟩) (hK H locs hk).2.2 hd X.locks)
theorem g_vret (X : XO κ own cc nL none δ rm A0 hh) (hK : KOk κ A0 K) (hd : decode cc pc = .ok (.return_, 1)) (hp : P (.inr none) ws) : G κ nL δ K (Qe κ δ A0 P) 0 0 ws lv [] pc :=
  fun H locs ls _ hP hk => W_mono (fun _ => Qe_ret (hK H locs hk) hp hP) (W.vret X.1 X.2.1 X.ret (fun t ht _ => ⟨rfl, ht⟩) (hK H locs hk).2.2 hd X.locks)
theorem g_aret {C : String} (X : XO κ own cc nL (some (.object C)) δ rm A0 hh) (hK : KOk κ A0 K) {a : Nat} (hd : decode cc pc = .ok (.areturn, 1)) (hp : P (.inr (some (.ref a))) ws) : G κ nL δ K (Qe κ δ A0 P) 0 0 ws lv [.ref a] pc :=
  fun H locs ls _ hP hk => W_mono (fun _ => Qe_ret (hK H locs hk) hp hP) (W.aret X.1 X.2.1 X.ret (Or.inl ⟨C, rfl⟩) (Or.inr ⟨a, rfl⟩) (fun t ht _ => ⟨rfl, ht⟩) (hK H locs hk).2.2 hd X.locks)
/-- a contract out of a walk -/
theorem CT.of {l : Launch} {y : MethodName} {cw : Cond} {av : List Value} (hcw : (cw = .code y cc nL rt ∧ hh = []) ∨ cw = .codeWith y cc nL rt hh) (hy : plainName y.cls = true) (htr : l.stackTraces = false) (hlv : lv_args 0 av = lv) (hlen : (lg_sl av).length ≤ nL)
    (body : ∀ κ : KX, xl κ = l → XO κ y.cls cc nL rt δ rm A0 hh → va_P δ.1 vwCl ws (xs κ).heap → ∀ ls, lv_has ls nL lv → kW κ (xs κ).heap [] 0 0 (Qe κ δ A0 P) (F0 (xm κ) 0 ls [])) : CT l y cw rm δ A0 ws av P := by
  refine MetFree.of_bodyS (code := cc) (maxLocals := nL) (ret := rt) hy ?_ ?_
  · intro args s m h hn
    have h1 : cw.before args s = true := atoms_spec (ws := [cw]) h cw List.mem_cons_self
    rcases hcw with ⟨rfl, -⟩ | rfl
    · obtain ⟨meth, c, h1, h2, h3, h4, h5, h6, -, -⟩ := Cond.code_spec hn h1
      exact ⟨meth, c, h1, h2, h3, h4, h5, h6⟩
    · obtain ⟨m', meth, c, hn', hm, hc, h3, h4, -, h5, h6, -⟩ := Cond.codeWith_spec h1
      cases hn.symm.trans hn'
      exact ⟨meth, c, hm, hc, h3, h4, h5, h6⟩
  · intro p e s m args below meth c s₁ B hml hPc _
    obtain ⟨rfl, hF, hP⟩ := hPc
    have h1 : cw.before av.toArray s = true := atoms_spec (ws := [cw]) B.pre cw List.mem_cons_self
    have X₀ : Stand p l e rm s m av.toArray below meth c s₁ [] 0 0 := Stand.of_body B
    have hand : c.exceptionTable.toList.map (fun h => (h.startPc, h.endPc, h.handlerPc, h.catchType)) = hh := by
      rcases hcw with ⟨rfl, rfl⟩ | rfl
      · obtain ⟨meth', c', h1, h2, -, -, -, -, h7, -⟩ := Cond.code_spec B.named h1
        cases B.method.symm.trans h1
        cases X₀.code.symm.trans h2
        have h0 : c.exceptionTable.size = 0 := by simpa [Array.isEmpty] using h7
        have h8 : c.exceptionTable.toList = [] := List.eq_nil_of_length_eq_zero (by simpa using h0)
        rw [h8]
        rfl
      · obtain ⟨m', meth', c', hn', hm, hc, -, -, h7, -⟩ := Cond.codeWith_spec h1
        cases B.named.symm.trans hn'
        cases B.method.symm.trans hm
        cases X₀.code.symm.trans hc
        exact h7
    have hh0 : s₁.heap = s.heap := by rw [B.state]; rfl
    have hW : W p l e rm s m av.toArray below meth c s.heap [] 0 0 (Qe (p, l, e, rm, s, m, av.toArray, below, meth, c) δ A0 P) (entryFrame m av.toArray nL) := by
      rw [lg_entry_eq]
      exact body (p, l, e, rm, s, m, av.toArray, below, meth, c) rfl
        ⟨B.exec, B.bytes, hml, findClass_of_methodNamed B.named, fun w hw => gl_moves hw (State.WarmedH.refl s) (hF.1 w hw), B.notSynchronized, B.returns, rfl, hF.2.1, hF.2.2, hand, htr⟩ hP _ (hlv ▸ lv_entry av hlen)
    obtain ⟨t, a1, o, b1, b2, b3⟩ := hW s₁ hh0 X₀
    exact ⟨t, o, a1, b1, b2, b3⟩
theorem CT.ofN {l : Launch} {y : MethodName} {cw : Cond} {av : List Value} (hcw : (cw = .code y cc nL rt ∧ hh = []) ∨ cw = .codeWith y cc nL rt hh) (hy : plainName y.cls = true) (htr : l.stackTraces = false) (hlv : lv_args 0 av = lv) (hlen : (lg_sl av).length ≤ nL)
    (body : ∀ κ : KX, xl κ = l → XO κ y.cls cc nL rt δ rm A0 hh → G κ nL δ (Kn κ A0) (Qe κ δ A0 P) 0 0 ws lv [] 0) : CT l y cw rm δ A0 ws av P :=
  CT.of hcw hy htr hlv hlen (fun κ h1 X hP ls hl => body κ h1 X _ _ ls hl hP va_S.rf)
theorem CT.ofP {l : Launch} {y : MethodName} {cw : Cond} {av : List Value} (hcw : (cw = .code y cc nL rt ∧ hh = []) ∨ cw = .codeWith y cc nL rt hh) (hy : plainName y.cls = true) (htr : l.stackTraces = false) (hlv : lv_args 0 av = lv) (hlen : (lg_sl av).length ≤ nL)
    (body : ∀ κ : KX, xl κ = l → XO κ y.cls cc nL rt δ rm A0 hh → G κ nL δ (Kp κ) (Qe κ δ A0 P) 0 0 ws lv [] 0) : CT l y cw rm δ A0 ws av P :=
  CT.of hcw hy htr hlv hlen (fun κ h1 X hP ls hl => body κ h1 X _ _ ls hl hP ⟨rfl, rfl⟩)
/-- what the invoking instruction itself does -/
def Inv (κ : KX) (T : State) (locs : List Loc) (cs sl : Nat) (g : JFrame) (rest : List Value) (y : MethodName) (a : Array Value) : Prop :=
  ∃ (vm' : Vm) (mk : MethodId), Stand (xp κ) (xl κ) (xe κ) (xR κ) (xs κ) (xm κ) (xa κ) (xb κ) (xM κ) (xc κ) (T.setVm vm') locs cs sl ∧ (xs κ).methodNamed? y = some mk ∧
    ∀ target, (∀ acts, Steps (xp κ).tables (xe κ) (xb κ) (doInvoke (xe κ) ((T.setVm vm').setTop { g with stack := rest }) acts mk a).1 target) → Steps (xp κ).tables (xe κ) (xb κ) (T.setTop g) target
/-- the callee's start, out of the caller's -/
theorem Fc_of (X : XO κ own cc nL rt δ rm A0 hh) {B0 : Nat → Prop} (hB : ∀ q, B0 q → A0 q) {H : Heap} {locs : List Loc} (hK : Kn κ A0 H locs) {U : State} (hU : U.heap = H) (hW : (xs κ).WarmedH U.vm) : Fc δ B0 U := by
  subst hU
  have k : ∀ a : Nat, a < (xs κ).heap.size → ¬ A0 a → U.heap[a]? = (xs κ).heap[a]? := hK.keep
  exact ⟨fun w hw => gl_moves hw hW (X.wd hw), va_K.moved hW.alike X.kk, ((X.Z.1.kept k).narrow hB).moved hW.alike, ((X.Z.2.kept k).narrow hB).moved hW.alike⟩
theorem w_run (X : XO κ own cc nL rt δ rm A0 hh) {y : MethodName} {cw : Cond} {rm2 : Room} {B0 : Nat → Prop} (hB : ∀ q, B0 q → A0 q) {av : List Value} {cc2 : ByteArray} {nL2 : Nat} {rt2 : Option FieldType} {hh2 : List (Nat × Nat × Nat × Nat)} (hC : CT (xl κ) y cw rm2 δ B0 ws av P)
    (hcw : cw = .code y cc2 nL2 rt2 ∨ cw = .codeWith y cc2 nL2 rt2 hh2) (hw : cw ∈ gl) (hini : Cond.initialized y.cls ∈ gl)
    {T : State} {H : Heap} {locs : List Loc} {ls : Array Slot} {rest stk : List Value} (hI : Inv κ T locs cs sl (F0 (xm κ) pc ls stk) rest y av.toArray) (hT : T.heap = H) (hP : va_P δ.1 vwCl ws H) (hK : Kn κ A0 H locs) (hls : ls.size = nL) {ig : Instr} (hd : decode cc pc = .ok (ig, 3))
    (hfr : rm2.frames + 1 ≤ rm.frames) (hlo : (rest.map fun v => v.category).sum + (nL2 + 11) + rm2.locals ≤ rm.locals) (hcs : cs + rm2.cells ≤ rm.cells) (hsl : sl + rm2.slots ≤ rm.slots) :
    (∃ (v : Option Value) (w : va_W) (L : List Loc) (T' : State), Stand (xp κ) (xl κ) (xe κ) (xR κ) (xs κ) (xm κ) (xa κ) (xb κ) (xM κ) (xc κ) T' (locs ++ L) cs sl ∧ P (.inr v) w ∧ va_P δ.1 vwCl w T'.heap ∧ (∀ q : Nat, q < H.size → ¬ B0 q → T'.heap[q]? = H[q]?) ∧ T'.heap.size = H.size ∧ (∀ q ∈ L, B0 q.base ∨ H.size ≤ q.base) ∧
      ∀ tg, Steps (xp κ).tables (xe κ) (xb κ) (T'.setTop (F0 (xm κ) (pc + 3) ls (v.toList ++ rest))) tg → Steps (xp κ).tables (xe κ) (xb κ) (T.setTop (F0 (xm κ) pc ls stk)) tg) ∨
    (∃ (z x : Nat) (w : va_W) (L : List Loc) (T' : State), Stand (xp κ) (xl κ) (xe κ) (xR κ) (xs κ) (xm κ) (xa κ) (xb κ) (xM κ) (xc κ) T' (locs ++ L) (cs + 1) (sl + 6) ∧ P (.inl z) w ∧ va_P δ.1 vwCl w T'.heap ∧ (∀ q : Nat, q < H.size → ¬ B0 q → T'.heap[q]? = H[q]?) ∧ H.size ≤ T'.heap.size ∧ (∀ q ∈ L, B0 q.base ∨ H.size ≤ q.base) ∧
      (H.size ≤ x ∧ ∃ cell : Cell, T'.heap[x]? = some cell ∧ cell.vm = .none ∧ T'.vm.findClass (xcN z) = some cell.cls) ∧
      ∀ tg, Steps (xp κ).tables (xe κ) (xb κ) ((T'.setTop (F0 (xm κ) pc ls rest)).pushFrame (.throwing x)) tg → Steps (xp κ).tables (xe κ) (xb κ) (T.setTop (F0 (xm κ) pc ls stk)) tg) := by
  obtain ⟨vm', mk, X1, hnm, hst⟩ := hI
  subst hT
  have hn : (T.setVm vm').methodNamed? y = some mk := X1.named hnm
  have hcw1 : cw.before av.toArray (T.setVm vm') = true := gl_moves hw X1.warmed (X.wd hw)
  obtain ⟨mY, cY, hm, hc, hl⟩ : ∃ mY cY, (T.setVm vm').vm.method? mk = some mY ∧ mY.code = some cY ∧ cY.maxLocals = nL2 := by
    rcases hcw with rfl | rfl
    · obtain ⟨mY, cY, h1, h2, -, h4, -⟩ := Cond.code_spec hn hcw1
      exact ⟨mY, cY, h1, h2, h4⟩
    · obtain ⟨m', mY, cY, hn', h1, h2, -, h4, -⟩ := Cond.codeWith_spec hcw1
      cases hn.symm.trans hn'
      exact ⟨mY, cY, h1, h2, h4⟩
  obtain ⟨kY, hkY, -⟩ := className_of_methodNamed hn
  have hinit : kY.init = .initialized := Cond.initialized_spec (findClass_of_methodNamed hn) hkY (gl_moves (a' := #[]) hini X1.warmed (X.wd hini))
  have hgs : (F0 (xm κ) pc ls rest).locals.size = (xc κ).maxLocals := by rw [X.ml]; exact hls
  have hdc : decode (xc κ).code (F0 (xm κ) pc ls rest).pc = .ok (ig, 3) := by rw [X.2.1]; exact hd
  have h : At (T.setVm vm') (F0 (xm κ) pc ls rest).method (xc κ) (xb κ) := X1.here
  have hroom := X.room
  have happ : (headSpec [cw] rm2).appliesLoose y (xe κ).platform ((T.setVm vm').calling (F0 (xm κ) pc ls rest) mk av.toArray) = true :=
    Spec.appliesLoose_calling (g := F0 (xm κ) pc ls rest) h hdc hn hkY hinit
      (X1.room_calling (g := F0 (xm κ) pc ls rest) (R' := rm2) hgs hm hc (by rw [hroom]; exact hfr) (by rw [hl, hroom]; show 2 * 0 + (rest.map fun v => v.category).sum + _ + _ ≤ _; omega) (by rw [hroom]; exact hcs) (by rw [hroom]; exact hsl))
      (atoms_intro (fun c hc' => by rw [List.mem_singleton] at hc'; subst hc'; exact hcw1))
  obtain ⟨mid, hmid⟩ := h.above
  have hfr' : ((T.setVm vm').setTop (F0 (xm κ) pc ls rest)).frames = (.java (F0 (xm κ) pc ls rest) :: mid) ++ xb κ := by rw [State.frames_setTop' _ h.top, hmid]; rfl
  have hFc : Fc δ B0 ((T.setVm vm').calling (F0 (xm κ) pc ls rest) mk av.toArray) := Fc_of X hB (H := T.heap) hK rfl X1.warmed
  obtain ⟨o, t, hsteps, -, hend, hq⟩ := Steps.callFree hC (xp κ) X1.admits X1.cas X1.clock (acts := []) hfr' happ ⟨rfl, hFc, hP⟩ trivial
  rw [State.frames_setTop' _ h.top, X1.tail] at hend
  obtain ⟨r, w, L, k, n, hPr, hPw, hkeep, hW, hsame, hL, hr⟩ := hq
  have hsz : ((T.setVm vm').calling (F0 (xm κ) pc ls rest) mk av.toArray).heap = T.heap := rfl
  have hge := hsame.2.1
  have hle := hsame.2.2.1
  cases r with
  | inr v =>
    obtain ⟨rfl, rfl, rfl⟩ := hr
    obtain ⟨T', X', hW', hB', ht⟩ := X1.outOf (g := F0 (xm κ) pc ls rest) rfl hdc hend hW hsame
    have hth : t.heap = T'.heap := by rw [ht]; rfl
    refine Or.inl ⟨v, w, L, T', X', hPr, by rw [← hth]; exact hPw, fun q h1 h2 => by rw [← hth]; exact hkeep q h1 h2, ?_, hL, fun tg htg => hst tg (fun acts => by rw [doInvoke_state]; exact hsteps.trans (by rw [ht]; exact htg))⟩
    have e1 : T.heap.size ≤ t.heap.size := hge
    have e2 : t.heap.size ≤ T.heap.size + 0 := hle
    rw [← hth]
    omega
  | inl z =>
    obtain ⟨rfl, rfl, x, rfl, hx1, cell, hx2, hx3, hx4⟩ := hr
    obtain ⟨T', X', hW', hB', ht⟩ := X1.outOfThrown (g := F0 (xm κ) pc ls rest) rfl hend hW hsame
    have hth : t.heap = T'.heap := by rw [ht, Stand.throwing_heap]
    have htv : t.vm = T'.vm := by rw [ht, Stand.throwing_vm]
    have e1 : T.heap.size ≤ t.heap.size := hge
    exact Or.inr ⟨z, x, w, L, T', X', hPr, by rw [← hth]; exact hPw, fun q h1 h2 => by rw [← hth]; exact hkeep q h1 h2, by rw [← hth]; exact e1, hL, ⟨hx1, cell, by rw [← hth]; exact hx2, hx3, by rw [← htv]; exact hx4⟩,
      fun tg htg => hst tg (fun acts => by rw [doInvoke_state]; exact hsteps.trans (by rw [ht]; exact htg))⟩
end GC
end
section
section GD
variable {κ : KX} {own : String} {cc : ByteArray} {nL : Nat} {rt : Option FieldType} {δ : EX} {rm : Room} {A0 : Nat → Prop} {hh : List (Nat × Nat × Nat × Nat)} {K : Heap → List Loc → Prop} {Q : State → Prop} {cs sl : Nat} {ws : va_W} {lv : List (Nat × Value)} {st : List Value} {pc : Nat} {P P' : OC → va_W → Prop}
variable {y : MethodName} {cw : Cond} {rm2 : Room} {av : List Value} {cc2 : ByteArray} {nL2 : Nat} {rt2 : Option FieldType} {hh2 : List (Nat × Nat × Nat × Nat)} {rest stk : List Value}
/-- no old cell may be written -/
def NoA : Nat → Prop := fun _ => False
/-- at every point of a walk the instruction at pc invokes y with av -/
def InvAt (κ : KX) (δ : EX) (nL : Nat) (ws : va_W) (pc : Nat) (stk rest : List Value) (y : MethodName) (av : List Value) : Prop :=
  ∀ (T : State) (H : Heap) (locs : List Loc) (ls : Array Slot) (cs sl : Nat), T.heap = H → va_P δ.1 vwCl ws H → Stand (xp κ) (xl κ) (xe κ) (xR κ) (xs κ) (xm κ) (xa κ) (xb κ) (xM κ) (xc κ) T locs cs sl → Inv κ T locs cs sl (F0 (xm κ) pc ls stk) rest y av.toArray
theorem code_got {args : Array Value} {s : State} (hcw : cw = .code y cc2 nL2 rt2 ∨ cw = .codeWith y cc2 nL2 rt2 hh2) (h : cw.before args s = true) : ∃ mk meth, s.methodNamed? y = some mk ∧ s.vm.method? mk = some meth ∧ parseMethodDescriptor y.desc = some meth.sig := by
  rcases hcw with rfl | rfl
  · obtain ⟨mk, hn⟩ := Cond.code_named h
    obtain ⟨meth, c, h1, -, -, -, -, -, -, h2⟩ := Cond.code_spec hn h
    exact ⟨mk, meth, hn, h1, h2⟩
  · obtain ⟨mk, meth, c, hn, h1, -, -, -, -, -, -, h2⟩ := Cond.codeWith_spec h
    exact ⟨mk, meth, hn, h1, h2⟩
theorem inv_S (X : XO κ own cc nL rt δ rm A0 hh) {idx : Nat} (hcw : cw = .code y cc2 nL2 rt2 ∨ cw = .codeWith y cc2 nL2 rt2 hh2) (hw : cw ∈ gl) (hl : Cond.methodLink own idx y ∈ gl) (hs : Cond.static y ∈ gl) (hi : Cond.initialized y.cls ∈ gl)
    (hy : y.cls ≠ "java/lang/invoke/MethodHandle" ∧ y.cls ≠ "java/lang/invoke/VarHandle") (hn : (parseMethodDescriptor y.desc).map (fun d => d.parameters.length) = some av.length) (hd : decode cc pc = .ok (.invokestatic idx, 3)) (hst : stk = av.reverse ++ rest) : InvAt κ δ nL ws pc stk rest y av := by
  intro T H locs ls cs sl hT hP S
  obtain ⟨mk, meth, hnm, hm, hsig⟩ := code_got hcw (X.wd hw)
  obtain ⟨kP, hkP, -⟩ := className_of_methodNamed hnm
  have hlen : av.length = meth.sig.parameters.length := by
    rw [hsig] at hn
    exact (Option.some.inj hn).symm
  obtain ⟨vm₁, X₁, hstep⟩ := S.invokestatic X.1 X.ow (X.wd hl) hnm hm (Cond.static_spec hnm hm (X.wd hs)) hkP (Cond.initialized_spec (findClass_of_methodNamed hnm) hkP (X.wd hi)) hy (g := F0 (xm κ) pc ls stk) rfl (argsL := av) (rest := rest) hlen hst (by rw [X.2.1]; exact hd)
  exact ⟨vm₁, mk, X₁, hnm, hstep⟩
theorem inv_V (X : XO κ own cc nL rt δ rm A0 hh) {idx ci q0 : Nat} {b : Nat} {fs : List Value} {T0 : u_T} {N : Nat} (hcw : cw = .code y cc2 nL2 rt2 ∨ cw = .codeWith y cc2 nL2 rt2 hh2) (hw : cw ∈ gl) (hl : Cond.methodLink own idx y ∈ gl) (hin : Cond.instanceMethod y ∈ gl) (hse : Cond.selects y.cls y y ∈ gl)
    (hy : y.cls ≠ "java/lang/invoke/MethodHandle" ∧ y.cls ≠ "java/lang/invoke/VarHandle") (hn : (parseMethodDescriptor y.desc).map (fun d => d.parameters.length) = some av.length) (hd : decode cc pc = .ok (.invokevirtual idx, 3)) (hst : stk = av.reverse ++ .ref b :: rest)
    (he : ws[q0]? = some (b, .inr (ci, fs))) (hc : vwCl[ci]? = some (y.cls, T0, N)) : InvAt κ δ nL ws pc stk rest y (.ref b :: av) := by
  intro T H locs ls cs sl hT hP S
  obtain ⟨mk, meth, hnm, hm, hsig⟩ := code_got hcw (X.wd hw)
  have hlen : av.length = meth.sig.parameters.length := by
    rw [hsig] at hn
    exact (Option.some.inj hn).symm
  obtain ⟨mk', methM, hnamed, hmethM, hstM, habM⟩ := Cond.instanceMethod_spec (X.wd hin)
  cases hnm.symm.trans hnamed
  cases hm.symm.trans hmethM
  obtain ⟨r, hr, cell, hcell, hcls, hvm, -⟩ := hP q0 _ he
  cases hc.symm.trans hr
  have hK := (X.kk.1 ci _ hc).2.1
  obtain ⟨c2, r2, m2, q1, q2, q3, q4, kP, hkP, hkPi⟩ := Cond.selects_spec (X.wd hse)
  cases hK.symm.trans q1
  cases (State.methodFound?_of_named hnamed hy).symm.trans q2
  cases hnamed.symm.trans q3
  subst hT
  have hselP : selectMethod (xe κ).platform (xs κ).vm cell.cls mk = .method mk := by rw [Launch.admits_selectMethod S.admits, hcls]; exact q4
  obtain ⟨vm₁, X₁, hstep⟩ := S.invokevirtual X.1 X.ow (X.wd hl) hnamed hmethM hstM hkP hkPi hy (a := b) (cell := cell) hcell
    (fun z h => by rw [hvm] at h; cases h) hselP hmethM habM hkP hkPi (g := F0 (xm κ) pc ls stk) rfl (argsL := av) (rest := rest) hlen hst (by rw [X.2.1]; exact hd)
  exact ⟨vm₁, mk, X₁, hnm, hstep⟩
theorem noCovers (X : XO κ own cc nL rt δ rm A0 []) (pc : Nat) : ∀ x ∈ (xc κ).exceptionTable.toList, covers x pc = false := by
  intro x hx
  have h := X.hand
  rw [List.map_eq_nil_iff] at h
  rw [h] at hx
  cases hx
/-- a method without handlers leaves by what its callee threw -/
theorem Qe_thrown (X : XO κ own cc nL rt δ rm A0 []) {T' : State} {H : Heap} {locs L : List Loc} {ls : Array Slot} {z x : Nat} {w : va_W} (hK : Kn κ A0 H locs) (S : Stand (xp κ) (xl κ) (xe κ) (xR κ) (xs κ) (xm κ) (xa κ) (xb κ) (xM κ) (xc κ) T' (locs ++ L) (0 + 1) (0 + 6))
    (hp : P (.inl z) w) (hP : va_P δ.1 vwCl w T'.heap) (hk : ∀ q : Nat, q < H.size → ¬ A0 q → T'.heap[q]? = H[q]?) (hL : ∀ q ∈ L, A0 q.base ∨ H.size ≤ q.base) (hx : H.size ≤ x ∧ ∃ cell : Cell, T'.heap[x]? = some cell ∧ cell.vm = .none ∧ T'.vm.findClass (xcN z) = some cell.cls) :
    ∃ t, Steps (xp κ).tables (xe κ) (xb κ) ((T'.setTop (F0 (xm κ) pc ls rest)).pushFrame (.throwing x)) t ∧ Qe κ δ A0 P t := by
  obtain ⟨h1, h2, h3, h4, h5⟩ := S.leaveThrown x (g := F0 (xm κ) pc ls rest) rfl rfl rfl (noCovers X pc) X.locks
  refine ⟨_, h1, _, h2, h3, .inl z, w, locs ++ L, 1, 6, hp, hP, fun q q1 q2 => ?_, h4, h5, fun q hq => ?_, rfl, rfl, x, rfl, Nat.le_trans hK.1 hx.1, hx.2⟩
  · exact (hk q (Nat.lt_of_lt_of_le q1 hK.1) q2).trans (hK.keep q q1 q2)
  · rcases List.mem_append.mp hq with h | h
    · exact hK.2.2 q h
    · rcases hL q h with h | h
      · exact Or.inl h
      · exact Or.inr (Nat.le_trans hK.1 h)
/-- a call, by its contract: no handlers here -/
theorem g_call (X : XO κ own cc nL rt δ rm A0 []) (hI : InvAt κ δ nL ws pc stk rest y av) (hC : CT (xl κ) y cw rm2 δ A0 ws av P) (hcw : cw = .code y cc2 nL2 rt2 ∨ cw = .codeWith y cc2 nL2 rt2 hh2) (hw : cw ∈ gl) (hini : Cond.initialized y.cls ∈ gl) {ig : Instr} (hd : decode cc pc = .ok (ig, 3))
    (hrm : rm2.frames + 1 ≤ rm.frames ∧ (rest.map fun v => v.category).sum + (nL2 + 11) + rm2.locals ≤ rm.locals ∧ 0 + rm2.cells ≤ rm.cells ∧ 0 + rm2.slots ≤ rm.slots)
    (n : ∀ v w, P (.inr v) w → G κ nL δ (Kn κ A0) (Qe κ δ A0 P') 0 0 w lv (v.toList ++ rest) (pc + 3)) (kt : ∀ z w, P (.inl z) w → P' (.inl z) w) : G κ nL δ (Kn κ A0) (Qe κ δ A0 P') 0 0 ws lv stk pc := by
  intro H locs ls h hP hK T hT S
  rcases w_run X (fun _ q => q) hC hcw hw hini (hI T H locs ls 0 0 hT hP S) hT hP hK h.1 hd hrm.1 hrm.2.1 hrm.2.2.1 hrm.2.2.2 with ⟨v, w, L, T', S', hp, hP', hk, hz, hL, hs⟩ | ⟨z, x, w, L, T', S', hp, hP', hk, hz, hL, hx, hs⟩
  · obtain ⟨t, a1, b1⟩ := n v w hp T'.heap (locs ++ L) ls h hP' ⟨by rw [hz]; exact hK.1, fun q h1 h2 => (hk q (Nat.lt_of_lt_of_le h1 hK.1) (fun z => h2 (Or.inl z))).trans (hK.2.1 q h1 h2), fun q hq => by
      rcases List.mem_append.mp hq with h | h
      · exact hK.2.2 q h
      · rcases hL q h with h | h
        · exact Or.inl h
        · exact Or.inr (Nat.le_trans hK.1 h)⟩ T' rfl S'
    exact ⟨t, hs t a1, b1⟩
  · obtain ⟨t, a1, b1⟩ := Qe_thrown (P := P') (rest := rest) (ls := ls) (pc := pc) X hK S' (kt z w hp) hP' hk hL hx
    exact ⟨t, hs t a1, b1⟩
/-- a contract that changes nothing: one end -/
abbrev CTP (l : Launch) (y : MethodName) (cw : Cond) (rm : Room) (δ : EX) (ws : va_W) (av : List Value) (r : OC) : Prop := CT l y cw rm δ NoA ws av (fun r' w => r' = r ∧ w = ws)
theorem g_callP (X : XO κ own cc nL rt δ rm A0 hh) (hKO : KOk κ A0 K) (hI : InvAt κ δ nL ws pc stk rest y av) {v : Option Value} (hC : CTP (xl κ) y cw rm2 δ ws av (.inr v)) (hcw : cw = .code y cc2 nL2 rt2 ∨ cw = .codeWith y cc2 nL2 rt2 hh2) (hw : cw ∈ gl) (hini : Cond.initialized y.cls ∈ gl) {ig : Instr} (hd : decode cc pc = .ok (ig, 3))
    (hrm : rm2.frames + 1 ≤ rm.frames ∧ (rest.map fun v => v.category).sum + (nL2 + 11) + rm2.locals ≤ rm.locals ∧ cs + rm2.cells ≤ rm.cells ∧ sl + rm2.slots ≤ rm.slots)
    (n : G κ nL δ K Q cs sl ws lv (v.toList ++ rest) (pc + 3)) : G κ nL δ K Q cs sl ws lv stk pc := by
  intro H locs ls h hP hk0 T hT S
  have hK := hKO H locs hk0
  rcases w_run X (fun _ q => q.elim) hC hcw hw hini (hI T H locs ls cs sl hT hP S) hT hP hK h.1 hd hrm.1 hrm.2.1 hrm.2.2.1 hrm.2.2.2 with ⟨v', w, L, T', S', ⟨hp, -⟩, hP', hk, hz, hL, hs⟩ | ⟨z, x, w, L, T', S', ⟨hp, -⟩, -⟩
  · cases hp
    have hH : T'.heap = H := by
      apply Array.ext
      · exact hz
      · intro i h1 h2
        have := hk i h2 (fun q => q)
        rw [Array.getElem?_eq_getElem h1, Array.getElem?_eq_getElem h2] at this
        exact Option.some.inj this
    have S2 := Stand.forget (extra := L) S' (fun q hq => by
      rcases hL q hq with h | h
      · exact h.elim
      · exact Nat.le_trans hK.1 h)
    obtain ⟨t, a1, b1⟩ := n H locs ls h hP hk0 T' hH S2
    exact ⟨t, hs t a1, b1⟩
  · cases hp
theorem g_callPT (X : XO κ own cc nL rt δ rm A0 []) (hKO : KOk κ A0 K) (hI : InvAt κ δ nL ws pc stk rest y av) {z : Nat} (hC : CTP (xl κ) y cw rm2 δ ws av (.inl z)) (hcw : cw = .code y cc2 nL2 rt2 ∨ cw = .codeWith y cc2 nL2 rt2 hh2) (hw : cw ∈ gl) (hini : Cond.initialized y.cls ∈ gl) {ig : Instr} (hd : decode cc pc = .ok (ig, 3))
    (hrm : rm2.frames + 1 ≤ rm.frames ∧ (rest.map fun v => v.category).sum + (nL2 + 11) + rm2.locals ≤ rm.locals ∧ 0 + rm2.cells ≤ rm.cells ∧ 0 + rm2.slots ≤ rm.slots)
    (hp : P' (.inl z) ws) : G κ nL δ K (Qe κ δ A0 P') 0 0 ws lv stk pc := by
  intro H locs ls h hP hk0 T hT S
  have hK := hKO H locs hk0
  rcases w_run X (fun _ q => q.elim) hC hcw hw hini (hI T H locs ls 0 0 hT hP S) hT hP hK h.1 hd hrm.1 hrm.2.1 hrm.2.2.1 hrm.2.2.2 with ⟨v', w, L, T', S', ⟨hp', -⟩, -⟩ | ⟨z', x, w, L, T', S', ⟨hp', hw'⟩, hP', hk, hz, hL, hx, hs⟩
  · cases hp'
  · cases hp'
    subst hw'
    obtain ⟨t, a1, b1⟩ := Qe_thrown (P := P') (rest := rest) (ls := ls) (pc := pc) X hK S' hp hP' (fun q h1 _ => hk q h1 (fun z => z)) (fun q hq => Or.inr ((hL q hq).elim (fun z => z.elim) (fun z => z))) hx
    exact ⟨t, hs t a1, b1⟩
end GD
end
section
section GT
variable {κ : KX} {own : String} {cc : ByteArray} {nL : Nat} {rt : Option FieldType} {δ : EX} {rm : Room} {A0 : Nat → Prop} {ws : va_W} {lv : List (Nat × Value)} {pc : Nat} {P : OC → va_W → Prop}
theorem old_same {s t : State} {k n : Nat} (h : s.sameButNew ({ t with vm := s.vm } : State) [] k n) (q : Nat) (hq : q < s.heap.size) : t.heap[q]? = s.heap[q]? := by
  obtain ⟨c', h1, h2, h3, h4⟩ := h.2.2.2.2.2 q s.heap[q] (Array.getElem?_eq_getElem hq)
  have h1' : t.heap[q]? = some c' := h1
  rw [h1', Array.getElem?_eq_getElem hq, h2]
  congr 1
  have hs : c'.slots = (s.heap[q]).slots := by
    apply Array.ext
    · exact h3
    · intro i a1 a2
      have := h4 i (by simp)
      rw [Array.getElem?_eq_getElem a1, Array.getElem?_eq_getElem a2] at this
      exact Option.some.inj this
  rw [hs]
/-- the words of a throw that speak of the heap -/
def hw4 : List Cond := [.isRef (.static "java/lang/Throwable" "UNASSIGNED_STACK" "[Ljava/lang/StackTraceElement;"), .isRef (.static "java/lang/Throwable" "SUPPRESSED_SENTINEL" "Ljava/util/List;"), .laysStatic "java/lang/Throwable" "UNASSIGNED_STACK" "[Ljava/lang/StackTraceElement;", .laysStatic "java/lang/Throwable" "SUPPRESSED_SENTINEL" "Ljava/util/List;"]
theorem hw4_of (X : XO κ own cc nL rt δ rm A0 []) : ∀ w ∈ hw4, w.before (xa κ) (xs κ) = true := by
  intro w hw
  simp only [hw4, List.mem_cons, List.not_mem_nil, or_false] at hw
  rcases hw with rfl | rfl | rfl | rfl
  · exact vx_isRefq X.Z.1.1
  · exact vx_isRefq X.Z.2.1
  · exact X.Z.1.2.word
  · exact X.Z.2.2.word
/-- what a throw of cls by its text leans on: its own constructor (in which 'super(text)' is the entry i), the constructors above it, Throwable -/
def xAt (own : String) (ic : Nat) (cls Y : String) (i : Nat) (bytes : ByteArray) (names : List String) : List Cond :=
  Bundle.throwableAtoms ++ Bundle.throwableSAtoms ++ Bundle.passSAtoms cls Y i bytes ++ Bundle.chainSAtoms Y names ++
  [.methodLink own ic (Bundle.initS cls), .instantiable cls 6, .selects cls Bundle.tFill0 Bundle.tFill0, .selects cls Bundle.tFill Bundle.tFill,
   .lays cls Bundle.tN "cause" "Ljava/lang/Throwable;", .lays cls Bundle.tN "stackTrace" Bundle.steD, .lays cls Bundle.tN "suppressedExceptions" Bundle.listD, .lays cls Bundle.tN "detailMessage" "Ljava/lang/String;",
   .isRef (.static Bundle.tN "UNASSIGNED_STACK" Bundle.steD), .isRef (.static Bundle.tN "SUPPRESSED_SENTINEL" Bundle.listD),
   .fieldLink Bundle.tN 198 Bundle.tN "backtrace" "Ljava/lang/Object;", .lays Bundle.tN Bundle.tN "backtrace" "Ljava/lang/Object;", .lays cls Bundle.tN "backtrace" "Ljava/lang/Object;"]
set_option maxHeartbeats 4000000 in
theorem ctorT {p : Program} {l : Launch} {e : Env} {R : Room} {s : State} {m₀ : MethodId} {args : Array Value} {below : List Frame} {meth : Method} {c : Code} {T0 : State} {locs : List Loc} {cells slots : Nat}
    (X : Stand p l e R s m₀ args below meth c T0 locs cells slots) (hexec : p.tables.exec = Jvm.exec) (htr : e.platform.stackTraces = false) {own cls Y : String} {names : List String} {ic i : Nat} {bytes : ByteArray}
    (hown : s.vm.findClass own = some m₀.cls) (hcls : Bundle.fit cls = true) (hY : Bundle.fit Y = true) (hnames : ∀ n ∈ names, Bundle.fit n = true)
    (b0 : decode bytes 0 = .ok (.aload_n 0, 1)) (b1 : decode bytes 1 = .ok (.aload_n 1, 1)) (b2 : decode bytes 2 = .ok (.invokespecial i, 3)) (b5 : decode bytes 5 = .ok (.return_, 1))
    (h : ∀ a ∈ xAt own ic cls Y i bytes names, a.before args s = true)
    (hlocs : ∀ x ∈ locs, ∀ cell, s.heap[x.base]? = some cell → cell.vm.isStatics = false)
    {a : Addr} {cX : ClassId} {kX : Class} (hfoundX : s.vm.findClass cls = some cX) (hkX : s.vm.classes[cX]? = some kX) (hcell : T0.heap[a]? = some (freshCell cX kX)) (hnew : s.heap.size ≤ a)
    {msg : Value} (hmsg : msg.isRef = true)
    {g : JFrame} (hg : g.method = m₀) (hsize : g.locals.size = c.maxLocals) (hlocked : g.locked = none) (hentered : g.entered = []) {rest : List Value} (hstack : g.stack = msg :: .ref a :: .ref a :: rest)
    (hd6 : decode c.code g.pc = .ok (.invokespecial ic, 3)) (hd9 : decode c.code (g.pc + 3) = .ok (.athrow, 1)) (hout : ∀ x ∈ c.exceptionTable.toList, covers x (g.pc + 3) = false)
    (hRframes : names.length + 4 < R.frames) (hRlocals : 2 * g.monitorRoom + ((Value.ref a :: rest).map fun v => v.category).sum + (13 * (names.length + 2) + 42) ≤ R.locals) (hlocks : meth.locks = false) :
    ∃ U : State, Steps p.tables e below (T0.setTop g) U ∧ U.status = .running ∧ Ended U below (.threw a) ∧ s.WarmedH U.vm ∧ s.sameButNew ({ U with vm := s.vm } : State) locs cells slots ∧
      ∃ ce, U.heap[a]? = some ce ∧ ce.vm = .none ∧ s.vm.findClass cls = some ce.cls := by
  have howns : e.platform.frameOwnsMonitors = true := by rw [X.admits.platform]
  have hfin : e.platform.finalization = false := by rw [X.admits.platform]
  have hpl : e.platform.magicAccessors = ({} : Platform).magicAccessors := by rw [X.admits.platform]
  have a' : ∀ x, x ∈ xAt own ic cls Y i bytes names → x.holds args s none s [] = true := fun x hx => h x hx
  obtain ⟨T, Z0, L, -, Ti⟩ := ThrowableC.of_atoms (args := args) howns hfin hpl (fun x hx => h x (by simp [xAt, hx]))
  obtain ⟨Z, M, LZ, LM, hnZ⟩ := Init0T.ofS_atoms (args := args) hpl L Ti (fun x hx => h x (by simp [xAt, hx]))
  obtain ⟨P1, L1, hP1m, hP1s⟩ := PassC.ofS_atoms (args := args) (s := s) hpl (X := cls) (Y := Y) (Bundle.fit_spec hcls).1 (Bundle.fit_spec hY).2 b0 b1 b2 b5 (fun x hx => h x (by simp only [xAt, List.mem_append]; simp [hx]))
  obtain ⟨P2, Ps, hlen, L2, hL, hP2m, hlink2, hlink⟩ := Bundle.chainS (args := args) hpl hnZ names Y hY hnames (fun x hx => h x (by simp only [xAt, List.mem_append]; simp [hx]))
  have hlink1 : P1.sup = P2.m := Option.some.inj (hP1s.symm.trans hP2m)
  have hfound : s.vm.findClass cls = some P1.m.cls := findClass_of_methodNamed hP1m
  cases Option.some.inj (hfoundX.symm.trans hfound)
  obtain ⟨c1, kX', hc1, hk, hord, -, -, hn6⟩ := Cond.instantiable_spec (a' (.instantiable cls 6) (by simp [xAt]))
  cases Option.some.inj (hc1.symm.trans hfound)
  cases Option.some.inj (hkX.symm.trans hk)
  have hsel0 : selectMethod e.platform s.vm P1.m.cls T.fill0 = .method T.fill0 := by
    obtain ⟨c2, r2, m2, q1, q2, q3, q4, -⟩ := Cond.selects_spec (a' (.selects cls Bundle.tFill0 Bundle.tFill0) (by simp [xAt]))
    cases Option.some.inj (q1.symm.trans hfound)
    cases Option.some.inj (q2.symm.trans (State.methodFound?_of_named Ti.fill0 (by decide)))
    cases Option.some.inj (q3.symm.trans Ti.fill0)
    rw [Launch.admits_selectMethod X.admits]; exact q4
  have hselF : selectMethod e.platform s.vm P1.m.cls T.fill = .method T.fill := by
    obtain ⟨c2, r2, m2, q1, q2, q3, q4, -⟩ := Cond.selects_spec (a' (.selects cls Bundle.tFill Bundle.tFill) (by simp [xAt]))
    cases Option.some.inj (q1.symm.trans hfound)
    cases Option.some.inj (q2.symm.trans (State.methodFound?_of_named Ti.fill (by decide)))
    cases Option.some.inj (q3.symm.trans Ti.fill)
    rw [Launch.admits_selectMethod X.admits]; exact q4
  obtain ⟨cellS0, hcS0, hiss⟩ := Ti.statics
  obtain ⟨u0, hu0⟩ := Cond.staticRefV Ti.unassigned L.unassignedStatic L.statics hcS0 hiss (a' (.isRef (.static Bundle.tN "UNASSIGNED_STACK" Bundle.steD)) (by simp [xAt]))
  obtain ⟨sen, hsen⟩ := Cond.staticRefV Ti.sentinel L.sentinelStatic L.statics hcS0 hiss (a' (.isRef (.static Bundle.tN "SUPPRESSED_SENTINEL" Bundle.listD)) (by simp [xAt]))
  obtain ⟨ci198, i198, fB, hk198, hg198, ha198, hsB, -, hnB, htB, hffB⟩ := Cond.ownField (t := .object "java/lang/Object") Ti.found L.cls (by decide +kernel) (a' (.fieldLink Bundle.tN 198 Bundle.tN "backtrace" "Ljava/lang/Object;") (by simp [xAt])) (a' (.lays Bundle.tN Bundle.tN "backtrace" "Ljava/lang/Object;") (by simp [xAt])) e.platform hpl
  obtain ⟨cellS, hcS', heS, -, hkeep⟩ := X.same.2.2.2.2.2 T.aS cellS0 hcS0
  have hcellS : T0.heap[T.aS]? = some cellS := hcS'
  have hout' : ∀ i, (⟨T.aS, i⟩ : Loc) ∉ locs := fun i hmem => by
    have := hlocs _ hmem cellS0 hcS0
    rw [hiss] at this; cases this
  have hknownS : cellS.vm ≠ .unknown := by
    rw [heS]; intro hu
    rw [show cellS0.vm = .unknown from hu] at hiss
    cases hiss
  have hneS : T.aS ≠ a := Nat.ne_of_lt (Nat.lt_of_lt_of_le (Array.getElem?_eq_some_iff.mp hcS0).1 hnew)
  obtain ⟨iM, hffM⟩ := Ti.msg
  obtain ⟨tyC, dC, hdC, hdnC⟩ := Cond.laysAt hfound hk Ti.cause (a' (.lays cls Bundle.tN "cause" "Ljava/lang/Throwable;") (by simp [xAt]))
  obtain ⟨tyS, dS, hdS, hdnS⟩ := Cond.laysAt hfound hk Ti.stack (a' (.lays cls Bundle.tN "stackTrace" Bundle.steD) (by simp [xAt]))
  obtain ⟨tyP, dP, hdP, hdnP⟩ := Cond.laysAt hfound hk Ti.supp (a' (.lays cls Bundle.tN "suppressedExceptions" Bundle.listD) (by simp [xAt]))
  obtain ⟨tyM, dM, hdM, hdnM⟩ := Cond.laysAt hfound hk hffM (a' (.lays cls Bundle.tN "detailMessage" "Ljava/lang/String;") (by simp [xAt]))
  obtain ⟨tyB, dB, hdB, hdnB⟩ := Cond.laysAt hfound hk hffB (a' (.lays cls Bundle.tN "backtrace" "Ljava/lang/Object;") (by simp [xAt]))
  have bC := Cond.laysApart hdB hdC hdnB hdnC (by rw [hnB, Ti.causeName]; decide)
  have bS := Cond.laysApart hdB hdS hdnB hdnS (by rw [hnB, Ti.stackName]; decide)
  have bP := Cond.laysApart hdB hdP hdnB hdnP (by rw [hnB, Ti.suppName]; decide)
  have hskip : SkipFacts T e.platform s (fun u => u) u0 ((preparedCellV T.toThrowableT (freshCell P1.m.cls kX) a u0 sen).withEntry T0.cur) :=
    ⟨{ ci198 := ci198, i198 := i198, fBack := fB }, ⟨hk198, hg198, ha198, hsB⟩, by
      have := fresh_default (c := P1.m.cls) tyB
      rw [htB] at this
      simpa [preparedCellV, Cell.setSlot, Cell.withEntry, Array.getElem?_setIfInBounds, bC, bS, bP, bC.symm, bS.symm, bP.symm, defaultValue] using this, fun _ _ => rfl⟩
  obtain ⟨tm, methC, cdC, kC, vm₁, hnC, -, -, -, -, -, -, -, hW₁, st1⟩ := Steps.initColdS (tb := p.tables) (e := e) (below := below) (s := s) (U := T0) X.here hexec X.warmed hpl hown (t := Bundle.initS cls) rfl rfl (Bundle.fit_spec hcls).2
    (a' (.methodLink own ic (Bundle.initS cls)) (by simp [xAt])) (h (.instanceMethod (Bundle.initS cls)) (by simp [xAt, Bundle.passSAtoms])) (bytes := bytes) (maxL := 2) (h (.code (Bundle.initS cls) bytes 2 none) (by simp [xAt, Bundle.passSAtoms]))
    (f := g) hg (a := a) (msg := msg) (rest := .ref a :: rest) hstack hd6
  cases Option.some.inj (hnC.symm.trans hP1m)
  have X₁ := X.noted hW₁
  obtain ⟨vm₂, X₂, st2⟩ := X₁.ctorMessageOffV hexec (g := { g with stack := .ref a :: rest }) hg hsize T L Z LZ M LM (P1 :: P2 :: Ps)
    (fun P hP => by
      rcases List.mem_cons.mp hP with rfl | hP
      · exact L1
      · rcases List.mem_cons.mp hP with rfl | hP
        · exact L2
        · exact hL P hP) ⟨hlink1, hlink2, hlink⟩ (u0 := u0) (sen := sen) (self := a) hmsg (cell := freshCell P1.m.cls kX) (cellS := cellS)
    hcell (fun _ => by simp) (by simp) rfl rfl hsel0 hselF hcellS hneS hknownS (by rw [hkeep _ (hout' _)]; exact hu0) (by rw [hkeep _ (hout' _)]; exact hsen)
    (Takes.of_laid hk hord tyC (by rw [Ti.causeType]; rfl)) (Takes.of_laid hk hord tyS (by rw [Ti.stackType]; exact fits_refV_array _ u0)) (Takes.of_laid hk hord tyP (by rw [Ti.suppType]; exact fits_refV_object _ sen))
    (Takes.of_laid hk hord tyM (by rw [Ti.msgType]; exact fits_refV_object _ ⟨msg, hmsg⟩)) Ti.objLocals hskip htr [] hd6
    (by simp only [List.length_cons, hlen]; omega) (by simp only [List.length_cons, hlen]; exact hRlocals)
  obtain ⟨hwalk, hrun, hended, hWU, hsame⟩ := X₂.athrowLeaves hexec (g := { g with stack := .ref a :: rest, pc := g.pc + 3 }) hg hlocked hentered hout (a := a) (rest := rest) rfl hd9
  have hlt : a < ((T0.setVm vm₁).setVm vm₂).heap.size := (Array.getElem?_eq_some_iff.mp hcell).1
  have hU := heapAt_setCell_self (s := (T0.setVm vm₁).setVm vm₂) (plainBareV T.toThrowableT (freshCell P1.m.cls kX) a u0 sen msg) hlt
  refine ⟨_, st1 _ (fun acts => ?_), hrun, hended, hWU, hsame.weaken (fun y hy hlt' => ?_) (Nat.le_refl _) (Nat.le_refl _), _, hU, rfl, hfound⟩
  · rw [doInvoke_state]
    exact st2 _ hwalk
  · rcases List.mem_append.mp hy with h1 | h1
    · exact h1
    · exfalso
      have hb : y.base = a := by
        simp only [List.mem_cons, List.not_mem_nil, or_false] at h1
        rcases h1 with rfl | rfl | rfl | rfl | rfl <;> rfl
      rw [hb] at hlt'
      exact Nat.not_lt.mpr hnew hlt'
theorem g_throw (X : XO κ own cc nL rt δ rm A0 []) (z : Nat) {ic i inew is : Nat} {bytes : ByteArray} {tx : String}
    (b0 : decode bytes 0 = .ok (.aload_n 0, 1)) (b1 : decode bytes 1 = .ok (.aload_n 1, 1)) (b2 : decode bytes 2 = .ok (.invokespecial i, 3)) (b5 : decode bytes 5 = .ok (.return_, 1))
    (hat : ∀ a ∈ xAt own ic (xcN z) "java/lang/RuntimeException" i bytes ["java/lang/Exception"], a ∈ gl ∨ a ∈ hw4)
    (hfit : Bundle.fit (xcN z) = true) (hcl : Cond.classLink own inew (xcN z) ∈ gl) (hinst : Cond.instantiable (xcN z) 6 ∈ gl) (hini : Cond.initialized (xcN z) ∈ gl) (hs : Cond.stringRef own is tx ∈ gl)
    (hd0 : decode cc pc = .ok (.new inew, 3)) (hd1 : decode cc (pc + 3) = .ok (.dup, 1)) (hd2 : decode cc (pc + 3 + 1) = .ok (.ldc is, 2)) (hd3 : decode cc (pc + 3 + 1 + 2) = .ok (.invokespecial ic, 3)) (hd4 : decode cc (pc + 3 + 1 + 2 + 3) = .ok (.athrow, 1))
    (hrm : 5 < rm.frames ∧ 82 ≤ rm.locals ∧ 1 ≤ rm.cells ∧ 6 ≤ rm.slots) (hp : P (.inl z) ws) : G κ nL δ (Kp κ) (Qe κ δ A0 P) 0 0 ws lv [] pc := by
  intro H locs ls h hP hK
  obtain ⟨rfl, rfl⟩ := hK
  have hroom := X.room
  refine W.newc X.1 X.2.1 X.ow (X.wd hcl) (X.wd hinst) (X.wd hini) rfl hd0 (by rw [hroom]; have := hrm.2.2.1; omega) (by rw [hroom]; have := hrm.2.2.2; omega) (fun cC kC h1 h2 h3 h4 => ?_)
  refine W.eq (g2 := F0 (xm κ) (pc + 3) ls [.ref (xs κ).heap.size]) rfl ?_
  refine lv_dup X.1 X.2.1 hd1 rfl ?_
  obtain ⟨-, -, -, sa, -, -, -, -, -, hev⟩ := Cond.stringRef_spec X.ow (X.wd hs)
  intro T hT S
  refine (fun q => ?_ : (∃ t, Steps (xp κ).tables (xe κ) (xb κ) (T.setTop (F0 (xm κ) (pc + 3 + 1 + 2) ls [.ref sa, .ref (xs κ).heap.size, .ref (xs κ).heap.size])) t ∧ Qe κ δ A0 P t) → _) ?_
  · obtain ⟨t, a1, b1⟩ := q
    exact ⟨t, S.ldcString X.1 X.ow (X.wd hs) hev (g := F0 (xm κ) (pc + 3 + 1) ls [.ref (xs κ).heap.size, .ref (xs κ).heap.size]) rfl (by rw [X.2.1]; exact hd2) t a1, b1⟩
  · have htr : (xe κ).platform.stackTraces = false := by rw [S.admits.platform]; exact X.tr
    have hatoms : ∀ a ∈ xAt own ic (xcN z) "java/lang/RuntimeException" i bytes ["java/lang/Exception"], a.before (xa κ) (xs κ) = true := fun a ha => by
      rcases hat a ha with h | h
      · exact X.wd h
      · exact hw4_of X a h
    obtain ⟨U, s1, s2, s3, s4, s5, ce, s6, s7, s8⟩ := ctorT S X.1 htr X.ow hfit (by decide) (by decide) b0 b1 b2 b5 hatoms (fun x hx => by cases hx) (a := (xs κ).heap.size) h1 h2 (by rw [hT]; simp) (Nat.le_refl _) (msg := .ref sa) rfl
      (g := F0 (xm κ) (pc + 3 + 1 + 2) ls [.ref sa, .ref (xs κ).heap.size, .ref (xs κ).heap.size]) rfl (by rw [X.ml]; exact h.1) rfl rfl (rest := []) rfl (by rw [X.2.1]; exact hd3) (by rw [X.2.1]; exact hd4) (noCovers X _) (by rw [hroom]; exact hrm.1) (by rw [hroom]; exact hrm.2.1) X.locks
    have key := old_same s5
    refine ⟨U, s1, _, s2, s3, .inl z, ws, [], 1, 6, hp, va_P.kept hP (fun k q hk => key q.1 (hP k q hk).lt), fun q q1 _ => key q q1, s4, s5, (fun q hq => by cases hq), rfl, rfl, _, rfl, Nat.le_refl _, ce, s6, s7, ?_⟩
    rw [s4.alike.findClass]
    exact s8
end GT

theorem at_1 : ∀ a ∈ xAt R_D 193 (xcN 1) "java/lang/RuntimeException" 7 prog_6_method_2_code ["java/lang/Exception"], a ∈ gl ∨ a ∈ hw4 := by decide +kernel
theorem at_2 : ∀ a ∈ xAt R_D 213 (xcN 2) "java/lang/RuntimeException" 7 prog_7_method_2_code ["java/lang/Exception"], a ∈ gl ∨ a ∈ hw4 := by decide +kernel
theorem at_3 : ∀ a ∈ xAt R_D 208 (xcN 3) "java/lang/RuntimeException" 13 prog_13_method_4_code ["java/lang/Exception"], a ∈ gl ∨ a ∈ hw4 := by decide +kernel
theorem at_4 : ∀ a ∈ xAt R_D 172 (xcN 4) "java/lang/RuntimeException" 7 prog_12_method_2_code ["java/lang/Exception"], a ∈ gl ∨ a ∈ hw4 := by decide +kernel
end
section
/-! The desk's world: seven matrices by their place (0 .. 5 the registers, 6 the spare one), at addresses ad. -/
section DW
abbrev Mx : Type := Nat × Nat × (Nat → Int64) × (Nat → Bool)
abbrev DS : Type := Nat → Mx
def b2 (b : Bool) : Int32 := if b then 1 else 0
def wl (ad : Nat → Nat) (n : Nat) (f : Nat → va_E) : va_W := (List.range n).map (fun i => (ad i, f i))
theorem wl_get {ad : Nat → Nat} {n : Nat} {f : Nat → va_E} {i : Nat} (h : i < n) : (wl ad n f)[i]? = some (ad i, f i) := by
  unfold wl
  rw [List.getElem?_map, List.getElem?_range h]
  rfl
theorem wl_set {ad : Nat → Nat} {n : Nat} {f : Nat → va_E} {i : Nat} (e : va_E) : (wl ad n f).set i (ad i, e) = wl ad n (va_up f i e) := by
  apply List.ext_getElem?
  intro k
  unfold wl
  rw [List.getElem?_set, List.getElem?_map, List.getElem?_map]
  by_cases hk : i = k
  · subst hk
    by_cases hn : i < n
    · simp [hn, va_up]
    · simp [hn, List.getElem?_eq_none]
  · rw [if_neg hk]
    by_cases hn : k < n
    · rw [List.getElem?_range hn]
      have : ¬ k = i := fun q => hk q.symm
      simp [va_up, this]
    · rw [List.getElem?_eq_none (by simp; omega)]
      rfl
theorem wl_D {ad : Nat → Nat} {n : Nat} {f : Nat → va_E} {A : Nat → Prop} (hi : ∀ i j, i < n → j < n → ad i = ad j → i = j) (hA : ∀ i, i < n → A (ad i)) : va_D A (wl ad n f) := by
  have key : ∀ (k : Nat) (q : Nat × va_E), (wl ad n f)[k]? = some q → k < n ∧ q = (ad k, f k) := by
    intro k q hk
    by_cases hn : k < n
    · rw [wl_get hn] at hk
      exact ⟨hn, (Option.some.inj hk).symm⟩
    · unfold wl at hk
      rw [List.getElem?_eq_none (by simp; omega)] at hk
      cases hk
  refine ⟨fun i j p q h1 h2 h3 => ?_, fun k q h1 => ?_⟩
  · obtain ⟨a1, rfl⟩ := key i p h1
    obtain ⟨a2, rfl⟩ := key j q h2
    exact hi i j a1 a2 h3
  · obtain ⟨a1, rfl⟩ := key k q h1
    exact hA k a1
/-- the address of a matrix, of its values, of its marks -/
def mq (ad : Nat → Nat) (r : Nat) : Nat := ad (3 * r + 2)
def vq (ad : Nat → Nat) (r : Nat) : Nat := ad (3 * r + 3)
def fq (ad : Nat → Nat) (r : Nat) : Nat := ad (3 * r + 4)
def df (δ : EX) (ad : Nat → Nat) (M : DS) (i : Nat) : va_E :=
  if i = 0 then .inr (0, [.ref (ad 1), .ref (mq ad 6)])
  else if i = 1 then .inl (δ.2 3, 6, .inr (.inr (.inr (.inr (fun r => some (mq ad r))))))
  else if i % 3 = 2 then .inr (1, [.int (nI (M (i / 3)).1), .int (nI (M (i / 3)).2.1), .ref (vq ad (i / 3)), .ref (fq ad (i / 3))])
  else if i % 3 = 0 then .inl (δ.2 1, 64, .inr (.inl (M (i / 3 - 1)).2.2.1))
  else .inl (δ.2 2, 64, .inl (fun p => b2 ((M (i / 3 - 1)).2.2.2 p)))
def dl (δ : EX) (ad : Nat → Nat) (M : DS) : va_W := wl ad 23 (df δ ad M)
/-- the desk's own cells -/
def Ar (ad : Nat → Nat) : Nat → Prop := fun q => ∃ i, i < 23 ∧ q = ad i
def Inj (ad : Nat → Nat) : Prop := ∀ i j, i < 23 → j < 23 → ad i = ad j → i = j
variable {δ : EX} {ad : Nat → Nat} {M : DS} {r : Nat}
theorem df_m : df δ ad M (3 * r + 2) = .inr (1, [.int (nI (M r).1), .int (nI (M r).2.1), .ref (vq ad r), .ref (fq ad r)]) := by
  have h1 : (3 * r + 2) % 3 = 2 := by omega
  have h2 : (3 * r + 2) / 3 = r := by omega
  have h3 : ¬ 3 * r + 2 = 0 := by omega
  have h4 : ¬ 3 * r + 2 = 1 := by omega
  simp only [df, h1, h2, h3, h4, if_true, if_false]
theorem df_v : df δ ad M (3 * r + 3) = .inl (δ.2 1, 64, .inr (.inl (M r).2.2.1)) := by
  have h1 : (3 * r + 3) % 3 = 0 := by omega
  have h2 : (3 * r + 3) / 3 - 1 = r := by omega
  have h3 : ¬ 3 * r + 3 = 0 := by omega
  have h4 : ¬ 3 * r + 3 = 1 := by omega
  have h5 : ¬ (0 : Nat) = 2 := by omega
  simp only [df, h1, h2, h3, h4, h5, if_true, if_false]
theorem df_f : df δ ad M (3 * r + 4) = .inl (δ.2 2, 64, .inl (fun p => b2 ((M r).2.2.2 p))) := by
  have h1 : (3 * r + 4) % 3 = 1 := by omega
  have h2 : (3 * r + 4) / 3 - 1 = r := by omega
  have h3 : ¬ 3 * r + 4 = 0 := by omega
  have h4 : ¬ 3 * r + 4 = 1 := by omega
  have h5 : ¬ (1 : Nat) = 2 := by omega
  have h6 : ¬ (1 : Nat) = 0 := by omega
  simp only [df, h1, h2, h3, h4, h5, h6, if_true, if_false]
theorem dl_0 : (dl δ ad M)[0]? = some (ad 0, .inr (0, [.ref (ad 1), .ref (mq ad 6)])) := wl_get (by omega)
theorem dl_1 : (dl δ ad M)[1]? = some (ad 1, .inl (δ.2 3, 6, .inr (.inr (.inr (.inr (fun r => some (mq ad r))))))) := wl_get (by omega)
theorem dl_m (h : r < 7) : (dl δ ad M)[3 * r + 2]? = some (mq ad r, .inr (1, [.int (nI (M r).1), .int (nI (M r).2.1), .ref (vq ad r), .ref (fq ad r)])) := by
  have := wl_get (ad := ad) (f := df δ ad M) (show 3 * r + 2 < 23 by omega)
  rw [df_m] at this
  exact this
theorem dl_v (h : r < 7) : (dl δ ad M)[3 * r + 3]? = some (vq ad r, .inl (δ.2 1, 64, .inr (.inl (M r).2.2.1))) := by
  have := wl_get (ad := ad) (f := df δ ad M) (show 3 * r + 3 < 23 by omega)
  rw [df_v] at this
  exact this
theorem dl_f (h : r < 7) : (dl δ ad M)[3 * r + 4]? = some (fq ad r, .inl (δ.2 2, 64, .inl (fun p => b2 ((M r).2.2.2 p)))) := by
  have := wl_get (ad := ad) (f := df δ ad M) (show 3 * r + 4 < 23 by omega)
  rw [df_f] at this
  exact this
theorem df_um (x y : Nat) : va_up (df δ ad M) (3 * r + 2) (.inr (1, [.int (nI x), .int (nI y), .ref (vq ad r), .ref (fq ad r)])) = df δ ad (va_up M r (x, y, (M r).2.2)) := by
  funext i
  by_cases h : i = 3 * r + 2
  · subst h
    rw [df_m]
    simp [va_up]
  · by_cases a0 : i = 0
    · subst a0; simp [va_up, df]
    by_cases a1 : i = 1
    · subst a1
      have : ¬ 1 = 3 * r + 2 := h
      simp [va_up, df, this]
    have e : va_up (df δ ad M) (3 * r + 2) (.inr (1, [.int (nI x), .int (nI y), .ref (vq ad r), .ref (fq ad r)])) i = df δ ad M i := by simp [va_up, h]
    rw [e]
    unfold df
    rw [if_neg a0, if_neg a0, if_neg a1, if_neg a1]
    by_cases b2' : i % 3 = 2
    · rw [if_pos b2', if_pos b2']
      have : ¬ i / 3 = r := by omega
      simp [va_up, this]
    · rw [if_neg b2', if_neg b2']
      by_cases c : i / 3 - 1 = r
      · simp [va_up, c]
      · simp [va_up, c]
theorem df_uv (g : Nat → Int64) : va_up (df δ ad M) (3 * r + 3) (.inl (δ.2 1, 64, .inr (.inl g))) = df δ ad (va_up M r ((M r).1, (M r).2.1, g, (M r).2.2.2)) := by
  funext i
  by_cases h : i = 3 * r + 3
  · subst h
    rw [df_v]
    simp [va_up]
  · by_cases a0 : i = 0
    · subst a0; simp [va_up, df]
    by_cases a1 : i = 1
    · subst a1
      have : ¬ 1 = 3 * r + 3 := h
      simp [va_up, df, this]
    have e : va_up (df δ ad M) (3 * r + 3) (.inl (δ.2 1, 64, .inr (.inl g))) i = df δ ad M i := by simp [va_up, h]
    rw [e]
    unfold df
    rw [if_neg a0, if_neg a0, if_neg a1, if_neg a1]
    by_cases b2' : i % 3 = 2
    · rw [if_pos b2', if_pos b2']
      by_cases c : i / 3 = r
      · simp [va_up, c]
      · simp [va_up, c]
    · rw [if_neg b2', if_neg b2']
      by_cases b0 : i % 3 = 0
      · rw [if_pos b0, if_pos b0]
        have : ¬ i / 3 - 1 = r := by omega
        simp [va_up, this]
      · rw [if_neg b0, if_neg b0]
        by_cases c : i / 3 - 1 = r
        · simp [va_up, c]
        · simp [va_up, c]
theorem df_uf (g : Nat → Bool) : va_up (df δ ad M) (3 * r + 4) (.inl (δ.2 2, 64, .inl (fun p => b2 (g p)))) = df δ ad (va_up M r ((M r).1, (M r).2.1, (M r).2.2.1, g)) := by
  funext i
  by_cases h : i = 3 * r + 4
  · subst h
    rw [df_f]
    simp [va_up]
  · by_cases a0 : i = 0
    · subst a0; simp [va_up, df]
    by_cases a1 : i = 1
    · subst a1
      have : ¬ 1 = 3 * r + 4 := h
      simp [va_up, df, this]
    have e : va_up (df δ ad M) (3 * r + 4) (.inl (δ.2 2, 64, .inl (fun p => b2 (g p)))) i = df δ ad M i := by simp [va_up, h]
    rw [e]
    unfold df
    rw [if_neg a0, if_neg a0, if_neg a1, if_neg a1]
    by_cases b2' : i % 3 = 2
    · rw [if_pos b2', if_pos b2']
      by_cases c : i / 3 = r
      · simp [va_up, c]
      · simp [va_up, c]
    · rw [if_neg b2', if_neg b2']
      by_cases b0 : i % 3 = 0
      · rw [if_pos b0, if_pos b0]
        by_cases c : i / 3 - 1 = r
        · simp [va_up, c]
        · simp [va_up, c]
      · rw [if_neg b0, if_neg b0]
        have : ¬ i / 3 - 1 = r := by omega
        simp [va_up, this]
theorem dl_um (x y : Nat) : (dl δ ad M).set (3 * r + 2) (mq ad r, .inr (1, [.int (nI x), .int (nI y), .ref (vq ad r), .ref (fq ad r)])) = dl δ ad (va_up M r (x, y, (M r).2.2)) := by
  unfold dl
  rw [← df_um]
  exact wl_set _
theorem dl_uv (g : Nat → Int64) : (dl δ ad M).set (3 * r + 3) (vq ad r, .inl (δ.2 1, 64, .inr (.inl g))) = dl δ ad (va_up M r ((M r).1, (M r).2.1, g, (M r).2.2.2)) := by
  unfold dl
  rw [← df_uv]
  exact wl_set _
theorem dl_uf (g : Nat → Bool) : (dl δ ad M).set (3 * r + 4) (fq ad r, .inl (δ.2 2, 64, .inl (fun p => b2 (g p)))) = dl δ ad (va_up M r ((M r).1, (M r).2.1, (M r).2.2.1, g)) := by
  unfold dl
  rw [← df_uf]
  exact wl_set _
theorem dl_D {A : Nat → Prop} (hi : Inj ad) (hA : ∀ q, Ar ad q → A q) : va_D A (dl δ ad M) := wl_D hi (fun i h => hA _ ⟨i, h, rfl⟩)
end DW
end
