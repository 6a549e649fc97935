section RA2
theorem inR_0 : inR 0 = true := by decide
def su0 (k : Nat) (x y : Int64) : Int64 := if k = 0 then x + y else if k = 1 then (if x < y then x else y) else if k = 2 then (if ¬ x = 0 ∨ ¬ y = 0 then 1 else 0) else if y < x then x else y
def ab0 (x : Int64) : Int64 := if x < 0 then -x else x
theorem ab0_0 {x : Int64} (h : ¬ x = 0) : ¬ ab0 x = 0 := by
  unfold ab0
  split
  · intro q
    apply h
    have := congrArg (fun z => -z) q
    simpa using this
  · exact h
def pr0 (k : Nat) (x y : Int64) : Int64 := if k = 0 then x * y else if k = 1 then x + y else if k = 2 then (if ¬ x = 0 ∧ ¬ y = 0 then 1 else 0) else if x < y then x else y
def prB (k : Nat) (x y : Int64) : Bool := decide (k = 0 ∧ ¬ y = 0 ∧ 1000000000000 / ab0 y < ab0 x)
def prV (k : Nat) (x y : Int64) : Int64 := if prB k x y = true then 0 else pr0 k x y
def prF (k : Nat) (x y : Int64) : Bool := prB k x y || !inR (pr0 k x y)
set_option maxHeartbeats 4000000 in
set_option maxRecDepth 100000 in
theorem c_R_sum {l : Launch} (htr : l.stackTraces = false) {δ : EX} {b : Nat → Nat} (hi : In7 b) {th wd hg : Nat} {s : SS} {w : WS} {k : Nat} (hk : k < 4) {x y : Int64} : CTN l y_R_sum cw_R_sum (RM 1) δ (Br b) (rl δ b th wd hg s w) [.ref (b 0), .int (nI k), .long x, .long y] (some (.long (su0 k x y))) (rl δ b th wd hg s (w.1 || !inR (su0 k x y), w.2)) := by
  refine CT.ofN (lv := [(0, .ref (b 0)), (1, .int (nI k)), (2, .long x), (4, .long y)]) (Or.inl ⟨rfl, rfl⟩) (by decide) htr rfl (Nat.le_of_ble_eq_true rfl) (fun κ hl X => ?_)
  subst hl
  obtain rfl | rfl | rfl | rfl : k = 0 ∨ k = 1 ∨ k = 2 ∨ k = 3 := by omega
  · refine g_iload_n X 1 d_R_sum_0 rfl rfl ?_
    refine g_tin X (off := 27) 28 d_R_sum_1 (by decide) (by decide) (by decide) (by decide) ?_
    refine g_lload_n X 2 d_R_sum_28 rfl rfl ?_
    refine g_lload X d_R_sum_29 rfl ?_
    refine g_ladd X d_R_sum_31 ?_
    refine g_lstore X d_R_sum_32 (by decide) ?_
    refine g_goto X 93 d_R_sum_34 (by decide) ?_
    refine g_aload_n X 0 d_R_sum_93 rfl rfl ?_
    refine g_aload_n X 0 d_R_sum_94 rfl rfl ?_
    refine q_far X d_R_sum_95 ?_
    refine z_ne X 109 d_R_sum_98 (by decide) (fun h98 => ?_) (fun h98 => ?_)
    · refine g_iconst X (v := nI 1) d_R_sum_109 (by decide) ?_
      refine g_goto X 114 d_R_sum_110 (by decide) ?_
      refine p_far X hi true (by decide) d_R_sum_114 ?_
      refine g_lload X d_R_sum_117 rfl ?_
      exact g_lret X KOk.n d_R_sum_119 ⟨by simp [su0, h98], by simp [su0, h98]⟩
    · refine g_lload X d_R_sum_101 rfl ?_
      refine g_SP X KOk.n s_R_46 (c_R_isValue htr) d_R_sum_103 rfl ?_ ?_
      · exact ⟨Nat.le_of_ble_eq_true rfl, Nat.le_of_ble_eq_true rfl, Nat.le_of_ble_eq_true rfl, Nat.le_of_ble_eq_true rfl⟩
      refine z_ne X 113 d_R_sum_106 (by decide) (fun h106 => ?_) (fun h106 => ?_)
      · refine g_iconst X (v := nI 0) d_R_sum_113 (by decide) ?_
        refine p_far X hi false (by decide) d_R_sum_114 ?_
        refine g_lload X d_R_sum_117 rfl ?_
        exact g_lret X KOk.n d_R_sum_119 ⟨by simp [su0, h98, h106], by simp [su0, h98, h106]⟩
      · refine g_iconst X (v := nI 1) d_R_sum_109 (by decide) ?_
        refine g_goto X 114 d_R_sum_110 (by decide) ?_
        refine p_far X hi true (by decide) d_R_sum_114 ?_
        refine g_lload X d_R_sum_117 rfl ?_
        exact g_lret X KOk.n d_R_sum_119 ⟨by simp [su0, h98, h106], by simp [su0, h98, h106]⟩
  · refine g_iload_n X 1 d_R_sum_0 rfl rfl ?_
    refine g_tin X (off := 36) 37 d_R_sum_1 (by decide) (by decide) (by decide) (by decide) ?_
    refine g_lload_n X 2 d_R_sum_37 rfl rfl ?_
    refine g_lload X d_R_sum_38 rfl ?_
    refine l_ge X 48 d_R_sum_40 d_R_sum_41 (by decide) (fun h41 => ?_) (fun h41 => ?_)
    · refine g_lload X d_R_sum_48 rfl ?_
      refine g_lstore X d_R_sum_50 (by decide) ?_
      refine g_goto X 93 d_R_sum_52 (by decide) ?_
      refine g_aload_n X 0 d_R_sum_93 rfl rfl ?_
      refine g_aload_n X 0 d_R_sum_94 rfl rfl ?_
      refine q_far X d_R_sum_95 ?_
      refine z_ne X 109 d_R_sum_98 (by decide) (fun h98 => ?_) (fun h98 => ?_)
      · refine g_iconst X (v := nI 1) d_R_sum_109 (by decide) ?_
        refine g_goto X 114 d_R_sum_110 (by decide) ?_
        refine p_far X hi true (by decide) d_R_sum_114 ?_
        refine g_lload X d_R_sum_117 rfl ?_
        exact g_lret X KOk.n d_R_sum_119 ⟨by simp [su0, h41, h98], by simp [su0, h41, h98]⟩
      · refine g_lload X d_R_sum_101 rfl ?_
        refine g_SP X KOk.n s_R_46 (c_R_isValue htr) d_R_sum_103 rfl ?_ ?_
        · exact ⟨Nat.le_of_ble_eq_true rfl, Nat.le_of_ble_eq_true rfl, Nat.le_of_ble_eq_true rfl, Nat.le_of_ble_eq_true rfl⟩
        refine z_ne X 113 d_R_sum_106 (by decide) (fun h106 => ?_) (fun h106 => ?_)
        · refine g_iconst X (v := nI 0) d_R_sum_113 (by decide) ?_
          refine p_far X hi false (by decide) d_R_sum_114 ?_
          refine g_lload X d_R_sum_117 rfl ?_
          exact g_lret X KOk.n d_R_sum_119 ⟨by simp [su0, h41, h98, h106], by simp [su0, h41, h98, h106]⟩
        · refine g_iconst X (v := nI 1) d_R_sum_109 (by decide) ?_
          refine g_goto X 114 d_R_sum_110 (by decide) ?_
          refine p_far X hi true (by decide) d_R_sum_114 ?_
          refine g_lload X d_R_sum_117 rfl ?_
          exact g_lret X KOk.n d_R_sum_119 ⟨by simp [su0, h41, h98, h106], by simp [su0, h41, h98, h106]⟩
    · refine g_lload_n X 2 d_R_sum_44 rfl rfl ?_
      refine g_goto X 50 d_R_sum_45 (by decide) ?_
      refine g_lstore X d_R_sum_50 (by decide) ?_
      refine g_goto X 93 d_R_sum_52 (by decide) ?_
      refine g_aload_n X 0 d_R_sum_93 rfl rfl ?_
      refine g_aload_n X 0 d_R_sum_94 rfl rfl ?_
      refine q_far X d_R_sum_95 ?_
      refine z_ne X 109 d_R_sum_98 (by decide) (fun h98 => ?_) (fun h98 => ?_)
      · refine g_iconst X (v := nI 1) d_R_sum_109 (by decide) ?_
        refine g_goto X 114 d_R_sum_110 (by decide) ?_
        refine p_far X hi true (by decide) d_R_sum_114 ?_
        refine g_lload X d_R_sum_117 rfl ?_
        exact g_lret X KOk.n d_R_sum_119 ⟨by simp [su0, h41, h98], by simp [su0, h41, h98]⟩
      · refine g_lload X d_R_sum_101 rfl ?_
        refine g_SP X KOk.n s_R_46 (c_R_isValue htr) d_R_sum_103 rfl ?_ ?_
        · exact ⟨Nat.le_of_ble_eq_true rfl, Nat.le_of_ble_eq_true rfl, Nat.le_of_ble_eq_true rfl, Nat.le_of_ble_eq_true rfl⟩
        refine z_ne X 113 d_R_sum_106 (by decide) (fun h106 => ?_) (fun h106 => ?_)
        · refine g_iconst X (v := nI 0) d_R_sum_113 (by decide) ?_
          refine p_far X hi false (by decide) d_R_sum_114 ?_
          refine g_lload X d_R_sum_117 rfl ?_
          exact g_lret X KOk.n d_R_sum_119 ⟨by simp [su0, h41, h98, h106], by simp [su0, h41, h98, h106]⟩
        · refine g_iconst X (v := nI 1) d_R_sum_109 (by decide) ?_
          refine g_goto X 114 d_R_sum_110 (by decide) ?_
          refine p_far X hi true (by decide) d_R_sum_114 ?_
          refine g_lload X d_R_sum_117 rfl ?_
          exact g_lret X KOk.n d_R_sum_119 ⟨by simp [su0, h41, h98, h106], by simp [su0, h41, h98, h106]⟩
  · refine g_iload_n X 1 d_R_sum_0 rfl rfl ?_
    refine g_tin X (off := 54) 55 d_R_sum_1 (by decide) (by decide) (by decide) (by decide) ?_
    refine g_lload_n X 2 d_R_sum_55 rfl rfl ?_
    refine g_lconst X (v := 0) d_R_sum_56 (by decide) ?_
    refine l_ne X 68 d_R_sum_57 d_R_sum_58 (by decide) (fun h58 => ?_) (fun h58 => ?_)
    · refine g_lconst X (v := 1) d_R_sum_68 (by decide) ?_
      refine g_goto X 73 d_R_sum_69 (by decide) ?_
      refine g_lstore X d_R_sum_73 (by decide) ?_
      refine g_goto X 93 d_R_sum_75 (by decide) ?_
      refine g_aload_n X 0 d_R_sum_93 rfl rfl ?_
      refine g_aload_n X 0 d_R_sum_94 rfl rfl ?_
      refine q_far X d_R_sum_95 ?_
      refine z_ne X 109 d_R_sum_98 (by decide) (fun h98 => ?_) (fun h98 => ?_)
      · refine g_iconst X (v := nI 1) d_R_sum_109 (by decide) ?_
        refine g_goto X 114 d_R_sum_110 (by decide) ?_
        refine p_far X hi true (by decide) d_R_sum_114 ?_
        refine g_lload X d_R_sum_117 rfl ?_
        exact g_lret X KOk.n d_R_sum_119 ⟨by simp [su0, h58, h98], by simp [su0, h58, h98]⟩
      · refine g_lload X d_R_sum_101 rfl ?_
        refine g_SP X KOk.n s_R_46 (c_R_isValue htr) d_R_sum_103 rfl ?_ ?_
        · exact ⟨Nat.le_of_ble_eq_true rfl, Nat.le_of_ble_eq_true rfl, Nat.le_of_ble_eq_true rfl, Nat.le_of_ble_eq_true rfl⟩
        refine z_ne X 113 d_R_sum_106 (by decide) (fun h106 => ?_) (fun h106 => ?_)
        · refine g_iconst X (v := nI 0) d_R_sum_113 (by decide) ?_
          refine p_far X hi false (by decide) d_R_sum_114 ?_
          refine g_lload X d_R_sum_117 rfl ?_
          exact g_lret X KOk.n d_R_sum_119 ⟨by simp [su0, h58, h98, h106], by simp [su0, h58, h98, h106]⟩
        · refine g_iconst X (v := nI 1) d_R_sum_109 (by decide) ?_
          refine g_goto X 114 d_R_sum_110 (by decide) ?_
          refine p_far X hi true (by decide) d_R_sum_114 ?_
          refine g_lload X d_R_sum_117 rfl ?_
          exact g_lret X KOk.n d_R_sum_119 ⟨by simp [su0, h58, h98, h106], by simp [su0, h58, h98, h106]⟩
    · refine g_lload X d_R_sum_61 rfl ?_
      refine g_lconst X (v := 0) d_R_sum_63 (by decide) ?_
      refine l_eq X 72 d_R_sum_64 d_R_sum_65 (by decide) (fun h65 => ?_) (fun h65 => ?_)
      · refine g_lconst X (v := 0) d_R_sum_72 (by decide) ?_
        refine g_lstore X d_R_sum_73 (by decide) ?_
        refine g_goto X 93 d_R_sum_75 (by decide) ?_
        refine g_aload_n X 0 d_R_sum_93 rfl rfl ?_
        refine g_aload_n X 0 d_R_sum_94 rfl rfl ?_
        refine q_far X d_R_sum_95 ?_
        refine z_ne X 109 d_R_sum_98 (by decide) (fun h98 => ?_) (fun h98 => ?_)
        · refine g_iconst X (v := nI 1) d_R_sum_109 (by decide) ?_
          refine g_goto X 114 d_R_sum_110 (by decide) ?_
          refine p_far X hi true (by decide) d_R_sum_114 ?_
          refine g_lload X d_R_sum_117 rfl ?_
          exact g_lret X KOk.n d_R_sum_119 ⟨by simp [su0, h58, h65, h98], by simp [su0, h58, h65, h98]⟩
        · refine g_lload X d_R_sum_101 rfl ?_
          refine g_SP X KOk.n s_R_46 (c_R_isValue htr) d_R_sum_103 rfl ?_ ?_
          · exact ⟨Nat.le_of_ble_eq_true rfl, Nat.le_of_ble_eq_true rfl, Nat.le_of_ble_eq_true rfl, Nat.le_of_ble_eq_true rfl⟩
          refine z_ne X 113 d_R_sum_106 (by decide) (fun h106 => ?_) (fun h106 => ?_)
          · refine g_iconst X (v := nI 0) d_R_sum_113 (by decide) ?_
            refine p_far X hi false (by decide) d_R_sum_114 ?_
            refine g_lload X d_R_sum_117 rfl ?_
            exact g_lret X KOk.n d_R_sum_119 ⟨by simp [su0, h58, h65, h98, h106], by simp [su0, h58, h65, h98, h106]⟩
          · refine g_iconst X (v := nI 1) d_R_sum_109 (by decide) ?_
            refine g_goto X 114 d_R_sum_110 (by decide) ?_
            refine p_far X hi true (by decide) d_R_sum_114 ?_
            refine g_lload X d_R_sum_117 rfl ?_
            exact g_lret X KOk.n d_R_sum_119 ⟨by simp [su0, h58, h65, h98, h106], by simp [su0, h58, h65, h98, h106]⟩
      · refine g_lconst X (v := 1) d_R_sum_68 (by decide) ?_
        refine g_goto X 73 d_R_sum_69 (by decide) ?_
        refine g_lstore X d_R_sum_73 (by decide) ?_
        refine g_goto X 93 d_R_sum_75 (by decide) ?_
        refine g_aload_n X 0 d_R_sum_93 rfl rfl ?_
        refine g_aload_n X 0 d_R_sum_94 rfl rfl ?_
        refine q_far X d_R_sum_95 ?_
        refine z_ne X 109 d_R_sum_98 (by decide) (fun h98 => ?_) (fun h98 => ?_)
        · refine g_iconst X (v := nI 1) d_R_sum_109 (by decide) ?_
          refine g_goto X 114 d_R_sum_110 (by decide) ?_
          refine p_far X hi true (by decide) d_R_sum_114 ?_
          refine g_lload X d_R_sum_117 rfl ?_
          exact g_lret X KOk.n d_R_sum_119 ⟨by simp [su0, h58, h65, h98], by simp [su0, h58, h65, h98]⟩
        · refine g_lload X d_R_sum_101 rfl ?_
          refine g_SP X KOk.n s_R_46 (c_R_isValue htr) d_R_sum_103 rfl ?_ ?_
          · exact ⟨Nat.le_of_ble_eq_true rfl, Nat.le_of_ble_eq_true rfl, Nat.le_of_ble_eq_true rfl, Nat.le_of_ble_eq_true rfl⟩
          refine z_ne X 113 d_R_sum_106 (by decide) (fun h106 => ?_) (fun h106 => ?_)
          · refine g_iconst X (v := nI 0) d_R_sum_113 (by decide) ?_
            refine p_far X hi false (by decide) d_R_sum_114 ?_
            refine g_lload X d_R_sum_117 rfl ?_
            exact g_lret X KOk.n d_R_sum_119 ⟨by simp [su0, h58, h65, h98, h106], by simp [su0, h58, h65, h98, h106]⟩
          · refine g_iconst X (v := nI 1) d_R_sum_109 (by decide) ?_
            refine g_goto X 114 d_R_sum_110 (by decide) ?_
            refine p_far X hi true (by decide) d_R_sum_114 ?_
            refine g_lload X d_R_sum_117 rfl ?_
            exact g_lret X KOk.n d_R_sum_119 ⟨by simp [su0, h58, h65, h98, h106], by simp [su0, h58, h65, h98, h106]⟩
  · refine g_iload_n X 1 d_R_sum_0 rfl rfl ?_
    refine g_tout X 78 d_R_sum_1 (by decide) (by decide) ?_
    refine g_lload_n X 2 d_R_sum_78 rfl rfl ?_
    refine g_lload X d_R_sum_79 rfl ?_
    refine l_le X 89 d_R_sum_81 d_R_sum_82 (by decide) (fun h82 => ?_) (fun h82 => ?_)
    · refine g_lload X d_R_sum_89 rfl ?_
      refine g_lstore X d_R_sum_91 (by decide) ?_
      refine g_aload_n X 0 d_R_sum_93 rfl rfl ?_
      refine g_aload_n X 0 d_R_sum_94 rfl rfl ?_
      refine q_far X d_R_sum_95 ?_
      refine z_ne X 109 d_R_sum_98 (by decide) (fun h98 => ?_) (fun h98 => ?_)
      · refine g_iconst X (v := nI 1) d_R_sum_109 (by decide) ?_
        refine g_goto X 114 d_R_sum_110 (by decide) ?_
        refine p_far X hi true (by decide) d_R_sum_114 ?_
        refine g_lload X d_R_sum_117 rfl ?_
        exact g_lret X KOk.n d_R_sum_119 ⟨by simp [su0, h82, h98], by simp [su0, h82, h98]⟩
      · refine g_lload X d_R_sum_101 rfl ?_
        refine g_SP X KOk.n s_R_46 (c_R_isValue htr) d_R_sum_103 rfl ?_ ?_
        · exact ⟨Nat.le_of_ble_eq_true rfl, Nat.le_of_ble_eq_true rfl, Nat.le_of_ble_eq_true rfl, Nat.le_of_ble_eq_true rfl⟩
        refine z_ne X 113 d_R_sum_106 (by decide) (fun h106 => ?_) (fun h106 => ?_)
        · refine g_iconst X (v := nI 0) d_R_sum_113 (by decide) ?_
          refine p_far X hi false (by decide) d_R_sum_114 ?_
          refine g_lload X d_R_sum_117 rfl ?_
          exact g_lret X KOk.n d_R_sum_119 ⟨by simp [su0, h82, h98, h106], by simp [su0, h82, h98, h106]⟩
        · refine g_iconst X (v := nI 1) d_R_sum_109 (by decide) ?_
          refine g_goto X 114 d_R_sum_110 (by decide) ?_
          refine p_far X hi true (by decide) d_R_sum_114 ?_
          refine g_lload X d_R_sum_117 rfl ?_
          exact g_lret X KOk.n d_R_sum_119 ⟨by simp [su0, h82, h98, h106], by simp [su0, h82, h98, h106]⟩
    · refine g_lload_n X 2 d_R_sum_85 rfl rfl ?_
      refine g_goto X 91 d_R_sum_86 (by decide) ?_
      refine g_lstore X d_R_sum_91 (by decide) ?_
      refine g_aload_n X 0 d_R_sum_93 rfl rfl ?_
      refine g_aload_n X 0 d_R_sum_94 rfl rfl ?_
      refine q_far X d_R_sum_95 ?_
      refine z_ne X 109 d_R_sum_98 (by decide) (fun h98 => ?_) (fun h98 => ?_)
      · refine g_iconst X (v := nI 1) d_R_sum_109 (by decide) ?_
        refine g_goto X 114 d_R_sum_110 (by decide) ?_
        refine p_far X hi true (by decide) d_R_sum_114 ?_
        refine g_lload X d_R_sum_117 rfl ?_
        exact g_lret X KOk.n d_R_sum_119 ⟨by simp [su0, h82, h98], by simp [su0, h82, h98]⟩
      · refine g_lload X d_R_sum_101 rfl ?_
        refine g_SP X KOk.n s_R_46 (c_R_isValue htr) d_R_sum_103 rfl ?_ ?_
        · exact ⟨Nat.le_of_ble_eq_true rfl, Nat.le_of_ble_eq_true rfl, Nat.le_of_ble_eq_true rfl, Nat.le_of_ble_eq_true rfl⟩
        refine z_ne X 113 d_R_sum_106 (by decide) (fun h106 => ?_) (fun h106 => ?_)
        · refine g_iconst X (v := nI 0) d_R_sum_113 (by decide) ?_
          refine p_far X hi false (by decide) d_R_sum_114 ?_
          refine g_lload X d_R_sum_117 rfl ?_
          exact g_lret X KOk.n d_R_sum_119 ⟨by simp [su0, h82, h98, h106], by simp [su0, h82, h98, h106]⟩
        · refine g_iconst X (v := nI 1) d_R_sum_109 (by decide) ?_
          refine g_goto X 114 d_R_sum_110 (by decide) ?_
          refine p_far X hi true (by decide) d_R_sum_114 ?_
          refine g_lload X d_R_sum_117 rfl ?_
          exact g_lret X KOk.n d_R_sum_119 ⟨by simp [su0, h82, h98, h106], by simp [su0, h82, h98, h106]⟩
set_option maxHeartbeats 4000000 in
set_option maxRecDepth 100000 in
theorem c_R_size0 {l : Launch} (htr : l.stackTraces = false) {δ : EX} {ws : va_W} {x : Int64} : CTP l y_R_size0 cw_R_size0 (RM 0) δ ws [.long x] (.inr (some (.long (ab0 x)))) := by
  refine CT.ofP (lv := [(0, .long x)]) (Or.inl ⟨rfl, rfl⟩) (by decide) htr rfl (Nat.le_of_ble_eq_true rfl) (fun κ hl X => ?_)
  subst hl
  refine g_lload_n X 0 d_R_size0_0 rfl rfl ?_
  refine g_lconst X (v := 0) d_R_size0_1 (by decide) ?_
  refine l_ge X 11 d_R_size0_2 d_R_size0_3 (by decide) (fun h3 => ?_) (fun h3 => ?_)
  · refine g_lload_n X 0 d_R_size0_11 rfl rfl ?_
    exact g_lret X KOk.p d_R_size0_12 ⟨by simp [ab0, h3], rfl⟩
  · refine g_lload_n X 0 d_R_size0_6 rfl rfl ?_
    refine g_lneg X d_R_size0_7 ?_
    refine g_goto X 12 d_R_size0_8 (by decide) ?_
    exact g_lret X KOk.p d_R_size0_12 ⟨by simp [ab0, h3], rfl⟩
set_option maxHeartbeats 4000000 in
set_option maxRecDepth 100000 in
theorem c_R_product {l : Launch} (htr : l.stackTraces = false) {δ : EX} {b : Nat → Nat} (hi : In7 b) {th wd hg : Nat} {s : SS} {w : WS} {k : Nat} (hk : k < 4) {x y : Int64} : CTN l y_R_product cw_R_product (RM 1) δ (Br b) (rl δ b th wd hg s w) [.ref (b 0), .int (nI k), .long x, .long y] (some (.long (prV k x y))) (rl δ b th wd hg s (w.1 || prF k x y, w.2)) := by
  refine CT.ofN (lv := [(0, .ref (b 0)), (1, .int (nI k)), (2, .long x), (4, .long y)]) (Or.inl ⟨rfl, rfl⟩) (by decide) htr rfl (Nat.le_of_ble_eq_true rfl) (fun κ hl X => ?_)
  subst hl
  obtain rfl | rfl | rfl | rfl : k = 0 ∨ k = 1 ∨ k = 2 ∨ k = 3 := by omega
  · refine g_iload_n X 1 d_R_product_0 rfl rfl ?_
    refine g_if_ne X 35 d_R_product_1 (by decide) (fun q => absurd q (by decide)) (fun _ => ?_)
    refine g_lload X d_R_product_4 rfl ?_
    refine g_lconst X (v := 0) d_R_product_6 (by decide) ?_
    refine l_eq X 35 d_R_product_7 d_R_product_8 (by decide) (fun h8 => ?_) (fun h8 => ?_)
    · refine g_iload_n X 1 d_R_product_35 rfl rfl ?_
      refine g_tin X (off := 28) 64 d_R_product_36 (by decide) (by decide) (by decide) (by decide) ?_
      refine g_lload_n X 2 d_R_product_64 rfl rfl ?_
      refine g_lload X d_R_product_65 rfl ?_
      refine g_lmul X d_R_product_67 ?_
      refine g_lstore X d_R_product_68 (by decide) ?_
      refine g_goto X 120 d_R_product_70 (by decide) ?_
      refine g_aload_n X 0 d_R_product_120 rfl rfl ?_
      refine g_aload_n X 0 d_R_product_121 rfl rfl ?_
      refine q_far X d_R_product_122 ?_
      refine z_ne X 136 d_R_product_125 (by decide) (fun h125 => ?_) (fun h125 => ?_)
      · refine g_iconst X (v := nI 1) d_R_product_136 (by decide) ?_
        refine g_goto X 141 d_R_product_137 (by decide) ?_
        refine p_far X hi true (by decide) d_R_product_141 ?_
        refine g_lload X d_R_product_144 rfl ?_
        exact g_lret X KOk.n d_R_product_146 ⟨by simp [prV, prB, pr0, h8, h125], by first | (simp [prF, prB, pr0, inR_0, h8, h125]; done) | (simp [h8, inR_0] at h133)⟩
      · refine g_lload X d_R_product_128 rfl ?_
        refine g_SP X KOk.n s_R_46 (c_R_isValue htr) d_R_product_130 rfl ?_ ?_
        · exact ⟨Nat.le_of_ble_eq_true rfl, Nat.le_of_ble_eq_true rfl, Nat.le_of_ble_eq_true rfl, Nat.le_of_ble_eq_true rfl⟩
        refine z_ne X 140 d_R_product_133 (by decide) (fun h133 => ?_) (fun h133 => ?_)
        · refine g_iconst X (v := nI 0) d_R_product_140 (by decide) ?_
          refine p_far X hi false (by decide) d_R_product_141 ?_
          refine g_lload X d_R_product_144 rfl ?_
          exact g_lret X KOk.n d_R_product_146 ⟨by simp [prV, prB, pr0, h8, h125, h133], by first | (simp [prF, prB, pr0, inR_0, h8, h125, h133]; done) | (simp [h8, inR_0] at h133)⟩
        · refine g_iconst X (v := nI 1) d_R_product_136 (by decide) ?_
          refine g_goto X 141 d_R_product_137 (by decide) ?_
          refine p_far X hi true (by decide) d_R_product_141 ?_
          refine g_lload X d_R_product_144 rfl ?_
          exact g_lret X KOk.n d_R_product_146 ⟨by simp [prV, prB, pr0, h8, h125, h133], by first | (simp [prF, prB, pr0, inR_0, h8, h125, h133]; done) | (simp [h8, inR_0] at h133)⟩
    · refine g_lload_n X 2 d_R_product_11 rfl rfl ?_
      refine g_SP X KOk.n s_R_58 (c_R_size0 htr) d_R_product_12 rfl ?_ ?_
      · exact ⟨Nat.le_of_ble_eq_true rfl, Nat.le_of_ble_eq_true rfl, Nat.le_of_ble_eq_true rfl, Nat.le_of_ble_eq_true rfl⟩
      refine g_ldc2 X d_R_product_15 kq_R_36 ?_
      refine g_lload X d_R_product_18 rfl ?_
      refine g_SP X KOk.n s_R_58 (c_R_size0 htr) d_R_product_20 rfl ?_ ?_
      · exact ⟨Nat.le_of_ble_eq_true rfl, Nat.le_of_ble_eq_true rfl, Nat.le_of_ble_eq_true rfl, Nat.le_of_ble_eq_true rfl⟩
      refine g_ldiv X d_R_product_23 (ab0_0 h8) ?_
      refine l_le X 35 d_R_product_24 d_R_product_25 (by decide) (fun h25 => ?_) (fun h25 => ?_)
      · refine g_iload_n X 1 d_R_product_35 rfl rfl ?_
        refine g_tin X (off := 28) 64 d_R_product_36 (by decide) (by decide) (by decide) (by decide) ?_
        refine g_lload_n X 2 d_R_product_64 rfl rfl ?_
        refine g_lload X d_R_product_65 rfl ?_
        refine g_lmul X d_R_product_67 ?_
        refine g_lstore X d_R_product_68 (by decide) ?_
        refine g_goto X 120 d_R_product_70 (by decide) ?_
        refine g_aload_n X 0 d_R_product_120 rfl rfl ?_
        refine g_aload_n X 0 d_R_product_121 rfl rfl ?_
        refine q_far X d_R_product_122 ?_
        refine z_ne X 136 d_R_product_125 (by decide) (fun h125 => ?_) (fun h125 => ?_)
        · refine g_iconst X (v := nI 1) d_R_product_136 (by decide) ?_
          refine g_goto X 141 d_R_product_137 (by decide) ?_
          refine p_far X hi true (by decide) d_R_product_141 ?_
          refine g_lload X d_R_product_144 rfl ?_
          exact g_lret X KOk.n d_R_product_146 ⟨by simp [prV, prB, pr0, h8, h25, h125], by first | (simp [prF, prB, pr0, inR_0, h8, h25, h125]; done) | (simp [h8, inR_0] at h133)⟩
        · refine g_lload X d_R_product_128 rfl ?_
          refine g_SP X KOk.n s_R_46 (c_R_isValue htr) d_R_product_130 rfl ?_ ?_
          · exact ⟨Nat.le_of_ble_eq_true rfl, Nat.le_of_ble_eq_true rfl, Nat.le_of_ble_eq_true rfl, Nat.le_of_ble_eq_true rfl⟩
          refine z_ne X 140 d_R_product_133 (by decide) (fun h133 => ?_) (fun h133 => ?_)
          · refine g_iconst X (v := nI 0) d_R_product_140 (by decide) ?_
            refine p_far X hi false (by decide) d_R_product_141 ?_
            refine g_lload X d_R_product_144 rfl ?_
            exact g_lret X KOk.n d_R_product_146 ⟨by simp [prV, prB, pr0, h8, h25, h125, h133], by first | (simp [prF, prB, pr0, inR_0, h8, h25, h125, h133]; done) | (simp [h8, inR_0] at h133)⟩
          · refine g_iconst X (v := nI 1) d_R_product_136 (by decide) ?_
            refine g_goto X 141 d_R_product_137 (by decide) ?_
            refine p_far X hi true (by decide) d_R_product_141 ?_
            refine g_lload X d_R_product_144 rfl ?_
            exact g_lret X KOk.n d_R_product_146 ⟨by simp [prV, prB, pr0, h8, h25, h125, h133], by first | (simp [prF, prB, pr0, inR_0, h8, h25, h125, h133]; done) | (simp [h8, inR_0] at h133)⟩
      · refine g_aload_n X 0 d_R_product_28 rfl rfl ?_
        refine g_iconst X (v := nI 1) d_R_product_29 (by decide) ?_
        refine p_far X hi true (by decide) d_R_product_30 ?_
        refine g_lconst X (v := 0) d_R_product_33 (by decide) ?_
        exact g_lret X KOk.n d_R_product_34 ⟨by simp [prV, prB, pr0, h8, h25], by first | (simp [prF, prB, pr0, inR_0, h8, h25]; done) | (simp [h8, inR_0] at h133)⟩
  · refine g_iload_n X 1 d_R_product_0 rfl rfl ?_
    refine g_if_ne X 35 d_R_product_1 (by decide) (fun _ => ?_) (fun q => absurd q (by decide))
    refine g_iload_n X 1 d_R_product_35 rfl rfl ?_
    refine g_tin X (off := 37) 73 d_R_product_36 (by decide) (by decide) (by decide) (by decide) ?_
    refine g_lload_n X 2 d_R_product_73 rfl rfl ?_
    refine g_lload X d_R_product_74 rfl ?_
    refine g_ladd X d_R_product_76 ?_
    refine g_lstore X d_R_product_77 (by decide) ?_
    refine g_goto X 120 d_R_product_79 (by decide) ?_
    refine g_aload_n X 0 d_R_product_120 rfl rfl ?_
    refine g_aload_n X 0 d_R_product_121 rfl rfl ?_
    refine q_far X d_R_product_122 ?_
    refine z_ne X 136 d_R_product_125 (by decide) (fun h125 => ?_) (fun h125 => ?_)
    · refine g_iconst X (v := nI 1) d_R_product_136 (by decide) ?_
      refine g_goto X 141 d_R_product_137 (by decide) ?_
      refine p_far X hi true (by decide) d_R_product_141 ?_
      refine g_lload X d_R_product_144 rfl ?_
      exact g_lret X KOk.n d_R_product_146 ⟨by simp [prV, prB, pr0, h125], by first | (simp [prF, prB, pr0, inR_0, h125]; done) | (simp [h8, inR_0] at h133)⟩
    · refine g_lload X d_R_product_128 rfl ?_
      refine g_SP X KOk.n s_R_46 (c_R_isValue htr) d_R_product_130 rfl ?_ ?_
      · exact ⟨Nat.le_of_ble_eq_true rfl, Nat.le_of_ble_eq_true rfl, Nat.le_of_ble_eq_true rfl, Nat.le_of_ble_eq_true rfl⟩
      refine z_ne X 140 d_R_product_133 (by decide) (fun h133 => ?_) (fun h133 => ?_)
      · refine g_iconst X (v := nI 0) d_R_product_140 (by decide) ?_
        refine p_far X hi false (by decide) d_R_product_141 ?_
        refine g_lload X d_R_product_144 rfl ?_
        exact g_lret X KOk.n d_R_product_146 ⟨by simp [prV, prB, pr0, h125, h133], by first | (simp [prF, prB, pr0, inR_0, h125, h133]; done) | (simp [h8, inR_0] at h133)⟩
      · refine g_iconst X (v := nI 1) d_R_product_136 (by decide) ?_
        refine g_goto X 141 d_R_product_137 (by decide) ?_
        refine p_far X hi true (by decide) d_R_product_141 ?_
        refine g_lload X d_R_product_144 rfl ?_
        exact g_lret X KOk.n d_R_product_146 ⟨by simp [prV, prB, pr0, h125, h133], by first | (simp [prF, prB, pr0, inR_0, h125, h133]; done) | (simp [h8, inR_0] at h133)⟩
  · refine g_iload_n X 1 d_R_product_0 rfl rfl ?_
    refine g_if_ne X 35 d_R_product_1 (by decide) (fun _ => ?_) (fun q => absurd q (by decide))
    refine g_iload_n X 1 d_R_product_35 rfl rfl ?_
    refine g_tin X (off := 46) 82 d_R_product_36 (by decide) (by decide) (by decide) (by decide) ?_
    refine g_lload_n X 2 d_R_product_82 rfl rfl ?_
    refine g_lconst X (v := 0) d_R_product_83 (by decide) ?_
    refine l_eq X 99 d_R_product_84 d_R_product_85 (by decide) (fun h85 => ?_) (fun h85 => ?_)
    · refine g_lconst X (v := 0) d_R_product_99 (by decide) ?_
      refine g_lstore X d_R_product_100 (by decide) ?_
      refine g_goto X 120 d_R_product_102 (by decide) ?_
      refine g_aload_n X 0 d_R_product_120 rfl rfl ?_
      refine g_aload_n X 0 d_R_product_121 rfl rfl ?_
      refine q_far X d_R_product_122 ?_
      refine z_ne X 136 d_R_product_125 (by decide) (fun h125 => ?_) (fun h125 => ?_)
      · refine g_iconst X (v := nI 1) d_R_product_136 (by decide) ?_
        refine g_goto X 141 d_R_product_137 (by decide) ?_
        refine p_far X hi true (by decide) d_R_product_141 ?_
        refine g_lload X d_R_product_144 rfl ?_
        exact g_lret X KOk.n d_R_product_146 ⟨by simp [prV, prB, pr0, h85, h125], by first | (simp [prF, prB, pr0, inR_0, h85, h125]; done) | (simp [h8, inR_0] at h133)⟩
      · refine g_lload X d_R_product_128 rfl ?_
        refine g_SP X KOk.n s_R_46 (c_R_isValue htr) d_R_product_130 rfl ?_ ?_
        · exact ⟨Nat.le_of_ble_eq_true rfl, Nat.le_of_ble_eq_true rfl, Nat.le_of_ble_eq_true rfl, Nat.le_of_ble_eq_true rfl⟩
        refine z_ne X 140 d_R_product_133 (by decide) (fun h133 => ?_) (fun h133 => ?_)
        · refine g_iconst X (v := nI 0) d_R_product_140 (by decide) ?_
          refine p_far X hi false (by decide) d_R_product_141 ?_
          refine g_lload X d_R_product_144 rfl ?_
          exact g_lret X KOk.n d_R_product_146 ⟨by simp [prV, prB, pr0, h85, h125, h133], by first | (simp [prF, prB, pr0, inR_0, h85, h125, h133]; done) | (simp [h8, inR_0] at h133)⟩
        · refine g_iconst X (v := nI 1) d_R_product_136 (by decide) ?_
          refine g_goto X 141 d_R_product_137 (by decide) ?_
          refine p_far X hi true (by decide) d_R_product_141 ?_
          refine g_lload X d_R_product_144 rfl ?_
          exact g_lret X KOk.n d_R_product_146 ⟨by simp [prV, prB, pr0, h85, h125, h133], by first | (simp [prF, prB, pr0, inR_0, h85, h125, h133]; done) | (simp [h8, inR_0] at h133)⟩
    · refine g_lload X d_R_product_88 rfl ?_
      refine g_lconst X (v := 0) d_R_product_90 (by decide) ?_
      refine l_eq X 99 d_R_product_91 d_R_product_92 (by decide) (fun h92 => ?_) (fun h92 => ?_)
      · refine g_lconst X (v := 0) d_R_product_99 (by decide) ?_
        refine g_lstore X d_R_product_100 (by decide) ?_
        refine g_goto X 120 d_R_product_102 (by decide) ?_
        refine g_aload_n X 0 d_R_product_120 rfl rfl ?_
        refine g_aload_n X 0 d_R_product_121 rfl rfl ?_
        refine q_far X d_R_product_122 ?_
        refine z_ne X 136 d_R_product_125 (by decide) (fun h125 => ?_) (fun h125 => ?_)
        · refine g_iconst X (v := nI 1) d_R_product_136 (by decide) ?_
          refine g_goto X 141 d_R_product_137 (by decide) ?_
          refine p_far X hi true (by decide) d_R_product_141 ?_
          refine g_lload X d_R_product_144 rfl ?_
          exact g_lret X KOk.n d_R_product_146 ⟨by simp [prV, prB, pr0, h85, h92, h125], by first | (simp [prF, prB, pr0, inR_0, h85, h92, h125]; done) | (simp [h8, inR_0] at h133)⟩
        · refine g_lload X d_R_product_128 rfl ?_
          refine g_SP X KOk.n s_R_46 (c_R_isValue htr) d_R_product_130 rfl ?_ ?_
          · exact ⟨Nat.le_of_ble_eq_true rfl, Nat.le_of_ble_eq_true rfl, Nat.le_of_ble_eq_true rfl, Nat.le_of_ble_eq_true rfl⟩
          refine z_ne X 140 d_R_product_133 (by decide) (fun h133 => ?_) (fun h133 => ?_)
          · refine g_iconst X (v := nI 0) d_R_product_140 (by decide) ?_
            refine p_far X hi false (by decide) d_R_product_141 ?_
            refine g_lload X d_R_product_144 rfl ?_
            exact g_lret X KOk.n d_R_product_146 ⟨by simp [prV, prB, pr0, h85, h92, h125, h133], by first | (simp [prF, prB, pr0, inR_0, h85, h92, h125, h133]; done) | (simp [h8, inR_0] at h133)⟩
          · refine g_iconst X (v := nI 1) d_R_product_136 (by decide) ?_
            refine g_goto X 141 d_R_product_137 (by decide) ?_
            refine p_far X hi true (by decide) d_R_product_141 ?_
            refine g_lload X d_R_product_144 rfl ?_
            exact g_lret X KOk.n d_R_product_146 ⟨by simp [prV, prB, pr0, h85, h92, h125, h133], by first | (simp [prF, prB, pr0, inR_0, h85, h92, h125, h133]; done) | (simp [h8, inR_0] at h133)⟩
      · refine g_lconst X (v := 1) d_R_product_95 (by decide) ?_
        refine g_goto X 100 d_R_product_96 (by decide) ?_
        refine g_lstore X d_R_product_100 (by decide) ?_
        refine g_goto X 120 d_R_product_102 (by decide) ?_
        refine g_aload_n X 0 d_R_product_120 rfl rfl ?_
        refine g_aload_n X 0 d_R_product_121 rfl rfl ?_
        refine q_far X d_R_product_122 ?_
        refine z_ne X 136 d_R_product_125 (by decide) (fun h125 => ?_) (fun h125 => ?_)
        · refine g_iconst X (v := nI 1) d_R_product_136 (by decide) ?_
          refine g_goto X 141 d_R_product_137 (by decide) ?_
          refine p_far X hi true (by decide) d_R_product_141 ?_
          refine g_lload X d_R_product_144 rfl ?_
          exact g_lret X KOk.n d_R_product_146 ⟨by simp [prV, prB, pr0, h85, h92, h125], by first | (simp [prF, prB, pr0, inR_0, h85, h92, h125]; done) | (simp [h8, inR_0] at h133)⟩
        · refine g_lload X d_R_product_128 rfl ?_
          refine g_SP X KOk.n s_R_46 (c_R_isValue htr) d_R_product_130 rfl ?_ ?_
          · exact ⟨Nat.le_of_ble_eq_true rfl, Nat.le_of_ble_eq_true rfl, Nat.le_of_ble_eq_true rfl, Nat.le_of_ble_eq_true rfl⟩
          refine z_ne X 140 d_R_product_133 (by decide) (fun h133 => ?_) (fun h133 => ?_)
          · refine g_iconst X (v := nI 0) d_R_product_140 (by decide) ?_
            refine p_far X hi false (by decide) d_R_product_141 ?_
            refine g_lload X d_R_product_144 rfl ?_
            exact g_lret X KOk.n d_R_product_146 ⟨by simp [prV, prB, pr0, h85, h92, h125, h133], by first | (simp [prF, prB, pr0, inR_0, h85, h92, h125, h133]; done) | (simp [h8, inR_0] at h133)⟩
          · refine g_iconst X (v := nI 1) d_R_product_136 (by decide) ?_
            refine g_goto X 141 d_R_product_137 (by decide) ?_
            refine p_far X hi true (by decide) d_R_product_141 ?_
            refine g_lload X d_R_product_144 rfl ?_
            exact g_lret X KOk.n d_R_product_146 ⟨by simp [prV, prB, pr0, h85, h92, h125, h133], by first | (simp [prF, prB, pr0, inR_0, h85, h92, h125, h133]; done) | (simp [h8, inR_0] at h133)⟩
  · refine g_iload_n X 1 d_R_product_0 rfl rfl ?_
    refine g_if_ne X 35 d_R_product_1 (by decide) (fun _ => ?_) (fun q => absurd q (by decide))
    refine g_iload_n X 1 d_R_product_35 rfl rfl ?_
    refine g_tout X 105 d_R_product_36 (by decide) (by decide) ?_
    refine g_lload_n X 2 d_R_product_105 rfl rfl ?_
    refine g_lload X d_R_product_106 rfl ?_
    refine l_ge X 116 d_R_product_108 d_R_product_109 (by decide) (fun h109 => ?_) (fun h109 => ?_)
    · refine g_lload X d_R_product_116 rfl ?_
      refine g_lstore X d_R_product_118 (by decide) ?_
      refine g_aload_n X 0 d_R_product_120 rfl rfl ?_
      refine g_aload_n X 0 d_R_product_121 rfl rfl ?_
      refine q_far X d_R_product_122 ?_
      refine z_ne X 136 d_R_product_125 (by decide) (fun h125 => ?_) (fun h125 => ?_)
      · refine g_iconst X (v := nI 1) d_R_product_136 (by decide) ?_
        refine g_goto X 141 d_R_product_137 (by decide) ?_
        refine p_far X hi true (by decide) d_R_product_141 ?_
        refine g_lload X d_R_product_144 rfl ?_
        exact g_lret X KOk.n d_R_product_146 ⟨by simp [prV, prB, pr0, h109, h125], by first | (simp [prF, prB, pr0, inR_0, h109, h125]; done) | (simp [h8, inR_0] at h133)⟩
      · refine g_lload X d_R_product_128 rfl ?_
        refine g_SP X KOk.n s_R_46 (c_R_isValue htr) d_R_product_130 rfl ?_ ?_
        · exact ⟨Nat.le_of_ble_eq_true rfl, Nat.le_of_ble_eq_true rfl, Nat.le_of_ble_eq_true rfl, Nat.le_of_ble_eq_true rfl⟩
        refine z_ne X 140 d_R_product_133 (by decide) (fun h133 => ?_) (fun h133 => ?_)
        · refine g_iconst X (v := nI 0) d_R_product_140 (by decide) ?_
          refine p_far X hi false (by decide) d_R_product_141 ?_
          refine g_lload X d_R_product_144 rfl ?_
          exact g_lret X KOk.n d_R_product_146 ⟨by simp [prV, prB, pr0, h109, h125, h133], by first | (simp [prF, prB, pr0, inR_0, h109, h125, h133]; done) | (simp [h8, inR_0] at h133)⟩
        · refine g_iconst X (v := nI 1) d_R_product_136 (by decide) ?_
          refine g_goto X 141 d_R_product_137 (by decide) ?_
          refine p_far X hi true (by decide) d_R_product_141 ?_
          refine g_lload X d_R_product_144 rfl ?_
          exact g_lret X KOk.n d_R_product_146 ⟨by simp [prV, prB, pr0, h109, h125, h133], by first | (simp [prF, prB, pr0, inR_0, h109, h125, h133]; done) | (simp [h8, inR_0] at h133)⟩
    · refine g_lload_n X 2 d_R_product_112 rfl rfl ?_
      refine g_goto X 118 d_R_product_113 (by decide) ?_
      refine g_lstore X d_R_product_118 (by decide) ?_
      refine g_aload_n X 0 d_R_product_120 rfl rfl ?_
      refine g_aload_n X 0 d_R_product_121 rfl rfl ?_
      refine q_far X d_R_product_122 ?_
      refine z_ne X 136 d_R_product_125 (by decide) (fun h125 => ?_) (fun h125 => ?_)
      · refine g_iconst X (v := nI 1) d_R_product_136 (by decide) ?_
        refine g_goto X 141 d_R_product_137 (by decide) ?_
        refine p_far X hi true (by decide) d_R_product_141 ?_
        refine g_lload X d_R_product_144 rfl ?_
        exact g_lret X KOk.n d_R_product_146 ⟨by simp [prV, prB, pr0, h109, h125], by first | (simp [prF, prB, pr0, inR_0, h109, h125]; done) | (simp [h8, inR_0] at h133)⟩
      · refine g_lload X d_R_product_128 rfl ?_
        refine g_SP X KOk.n s_R_46 (c_R_isValue htr) d_R_product_130 rfl ?_ ?_
        · exact ⟨Nat.le_of_ble_eq_true rfl, Nat.le_of_ble_eq_true rfl, Nat.le_of_ble_eq_true rfl, Nat.le_of_ble_eq_true rfl⟩
        refine z_ne X 140 d_R_product_133 (by decide) (fun h133 => ?_) (fun h133 => ?_)
        · refine g_iconst X (v := nI 0) d_R_product_140 (by decide) ?_
          refine p_far X hi false (by decide) d_R_product_141 ?_
          refine g_lload X d_R_product_144 rfl ?_
          exact g_lret X KOk.n d_R_product_146 ⟨by simp [prV, prB, pr0, h109, h125, h133], by first | (simp [prF, prB, pr0, inR_0, h109, h125, h133]; done) | (simp [h8, inR_0] at h133)⟩
        · refine g_iconst X (v := nI 1) d_R_product_136 (by decide) ?_
          refine g_goto X 141 d_R_product_137 (by decide) ?_
          refine p_far X hi true (by decide) d_R_product_141 ?_
          refine g_lload X d_R_product_144 rfl ?_
          exact g_lret X KOk.n d_R_product_146 ⟨by simp [prV, prB, pr0, h109, h125, h133], by first | (simp [prF, prB, pr0, inR_0, h109, h125, h133]; done) | (simp [h8, inR_0] at h133)⟩
def tcj (p : Nat) (h : Nat → Bool) : Nat → Bool := va_up h p false
def bgS (w : WS) : WS := (false, fl tcj 0 64 w.2.1, w.2.2)
def mkS (w : WS) (p : Nat) (v : Int64) : WS := (w.1, va_up w.2.1 p true, vp_updL w.2.2 p v)
set_option maxHeartbeats 4000000 in
set_option maxRecDepth 100000 in
theorem l_R_begin {κ : KX} {δ : EX} {b : Nat → Nat} {th wd hg : Nat} {P : OC → va_W → Prop} (X : XO κ R_R b_R_begin 4 none δ (RM 0) (Br b) []) (htr : (xl κ).stackTraces = false) (hi : In7 b) {s : SS} {w : WS} : ∀ (n i : Nat) (h0 : Nat → Bool), i + n = 64 → G κ 4 δ (Kn κ (Br b)) (Qe κ δ (Br b) P) 0 0 (rl δ b th wd hg s (w.1, (fl (tcj) i n h0), w.2.2)) [(0, .ref (b 0))] [] 36 → G κ 4 δ (Kn κ (Br b)) (Qe κ δ (Br b) P) 0 0 (rl δ b th wd hg s (w.1, h0, w.2.2)) [(0, .ref (b 0)), (3, .int (nI (i)))] [] 17 := by
  intro n
  induction n with
  | zero =>
    intro i h0 h hx
    refine g_iload_n X 3 d_R_begin_17 rfl rfl ?_
    refine g_bipush X (v := nI 64) d_R_begin_18 (by decide) ?_
    refine n_ge X 36 d_R_begin_20 (by decide) (by omega) (by omega) (fun h20 => ?_) (fun h20 => ?_)
    · exact g_sb hx ⟨rfl, trivial⟩
    · exact absurd h20 (by omega)
  | succ n ih =>
    intro i h0 h hx
    refine g_iload_n X 3 d_R_begin_17 rfl rfl ?_
    refine g_bipush X (v := nI 64) d_R_begin_18 (by decide) ?_
    refine n_ge X 36 d_R_begin_20 (by decide) (by omega) (by omega) (fun h20 => ?_) (fun h20 => ?_)
    · exact absurd h20 (by omega)
    · refine g_aload_n X 0 d_R_begin_23 rfl rfl ?_
      refine q_there X d_R_begin_24 ?_
      refine g_iload_n X 3 d_R_begin_27 rfl rfl ?_
      refine g_iconst X (v := nI 0) d_R_begin_28 (by decide) ?_
      refine e_there X hi false (by decide) (by omega) d_R_begin_29 ?_
      refine g_iinc X d_R_begin_30 rfl (nI_1 _) (by decide) ?_
      refine g_goto X 17 d_R_begin_33 (by decide) ?_
      exact g_sb (ih (i + 1) _ (by omega) (g_fl (wf := fun z => (rl δ b th wd hg s (w.1, z, w.2.2))) (lf := fun z => [(0, .ref (b 0))]) (F := tcj) (by rfl) hx)) ⟨rfl, rfl, trivial⟩
set_option maxHeartbeats 4000000 in
set_option maxRecDepth 100000 in
theorem c_R_begin {l : Launch} (htr : l.stackTraces = false) {δ : EX} {b : Nat → Nat} (hi : In7 b) {th wd hg : Nat} {s : SS} {w : WS} {m n : Nat} : CTN l y_R_begin cw_R_begin (RM 0) δ (Br b) (rl δ b th wd hg s w) [.ref (b 0), .int (nI m), .int (nI n)] none (rl δ b th n m s (bgS w)) := by
  refine CT.ofN (lv := [(0, .ref (b 0)), (1, .int (nI m)), (2, .int (nI n))]) (Or.inl ⟨rfl, rfl⟩) (by decide) htr rfl (Nat.le_of_ble_eq_true rfl) (fun κ hl X => ?_)
  subst hl
  refine g_aload_n X 0 d_R_begin_0 rfl rfl ?_
  refine g_iload_n X 1 d_R_begin_1 rfl rfl ?_
  refine p_high X hi d_R_begin_2 ?_
  refine g_aload_n X 0 d_R_begin_5 rfl rfl ?_
  refine g_iload_n X 2 d_R_begin_6 rfl rfl ?_
  refine p_wide X hi d_R_begin_7 ?_
  refine g_aload_n X 0 d_R_begin_10 rfl rfl ?_
  refine g_iconst X (v := nI 0) d_R_begin_11 (by decide) ?_
  refine p_far X hi false (by decide) d_R_begin_12 ?_
  refine g_iconst X (v := nI 0) d_R_begin_15 (by decide) ?_
  refine g_istore_n X 3 d_R_begin_16 rfl (by decide) ?_
  refine g_sb (l_R_begin X htr hi (w := (false, w.2)) 64 0 _ (by omega) ?_) ⟨rfl, rfl, trivial⟩
  exact g_vret X KOk.n d_R_begin_36 ⟨rfl, rfl⟩
set_option maxHeartbeats 4000000 in
set_option maxRecDepth 100000 in
theorem c_R_make {l : Launch} (htr : l.stackTraces = false) {δ : EX} {b : Nat → Nat} (hi : In7 b) {th wd hg : Nat} {s : SS} {w : WS} {i j : Nat} (h1 : i < 8) (h2 : j < 8) {v : Int64} : CTN l y_R_make cw_R_make (RM 0) δ (Br b) (rl δ b th wd hg s w) [.ref (b 0), .int (nI i), .int (nI j), .long v] none (rl δ b th wd hg s (mkS w (8 * i + j) v)) := by
  refine CT.ofN (lv := [(0, .ref (b 0)), (1, .int (nI i)), (2, .int (nI j)), (3, .long v)]) (Or.inl ⟨rfl, rfl⟩) (by decide) htr rfl (Nat.le_of_ble_eq_true rfl) (fun κ hl X => ?_)
  subst hl
  refine g_aload_n X 0 d_R_make_0 rfl rfl ?_
  refine q_there X d_R_make_1 ?_
  refine g_bipush X (v := nI 8) d_R_make_4 (by decide) ?_
  refine g_iload_n X 1 d_R_make_6 rfl rfl ?_
  refine n_mul X d_R_make_7 ?_
  refine g_iload_n X 2 d_R_make_8 rfl rfl ?_
  refine n_add X d_R_make_9 ?_
  refine g_iconst X (v := nI 1) d_R_make_10 (by decide) ?_
  refine e_there X hi true (by decide) (by omega) d_R_make_11 ?_
  refine g_aload_n X 0 d_R_make_12 rfl rfl ?_
  refine q_made X d_R_make_13 ?_
  refine g_bipush X (v := nI 8) d_R_make_16 (by decide) ?_
  refine g_iload_n X 1 d_R_make_18 rfl rfl ?_
  refine n_mul X d_R_make_19 ?_
  refine g_iload_n X 2 d_R_make_20 rfl rfl ?_
  refine n_add X d_R_make_21 ?_
  refine g_lload_n X 3 d_R_make_22 rfl rfl ?_
  refine e_made X hi (by omega) d_R_make_23 ?_
  exact g_vret X KOk.n d_R_make_24 ⟨rfl, rfl⟩
def kz (x : Int32) : Bool := decide (¬ x = 0 ∧ ¬ x = nI 2)
def fij (w : WS) (to : Nat) (x : Int32) (p : Nat) (z : (Nat → Bool) × (Nat → Int64)) : (Nat → Bool) × (Nat → Int64) := (va_up z.1 (64 * to + p) (w.2.1 p && (decide (¬ w.2.2 p = 0) || kz x)), vp_updL z.2 (64 * to + p) (w.2.2 p))
def fiH (s : SS) (w : WS) (to : Nat) (x : Int32) : (Nat → Bool) × (Nat → Int64) := fl (fij w to x) 0 64 s.2.2
def fiS (s : SS) (w : WS) (wd hg to : Nat) (x : Int32) : SS := (va_up s.1 to hg, va_up s.2.1 to wd, fiH s w to x)
set_option maxHeartbeats 4000000 in
set_option maxRecDepth 100000 in
theorem l_R_finish {κ : KX} {δ : EX} {b : Nat → Nat} {th wd hg : Nat} {P : OC → va_W → Prop} (X : XO κ R_R b_R_finish 4 (some .int) δ (RM 1) (Br b) []) (htr : (xl κ).stackTraces = false) (hi : In7 b) {s : SS} {w : WS} {to : Nat} {x : Int32} (hr : to < 6) : ∀ (n i : Nat) (z : (Nat → Bool) × (Nat → Int64)), i + n = 64 → G κ 4 δ (Kn κ (Br b)) (Qe κ δ (Br b) P) 0 0 (rl δ b th wd hg (s.1, s.2.1, (fl (fij w to x) i n z)) w) [(0, .ref (b 0)), (1, .int (nI to)), (2, .int x)] [] 96 → G κ 4 δ (Kn κ (Br b)) (Qe κ δ (Br b) P) 0 0 (rl δ b th wd hg (s.1, s.2.1, z) w) [(0, .ref (b 0)), (1, .int (nI to)), (2, .int x), (3, .int (nI (i)))] [] 22 := by
  intro n
  induction n with
  | zero =>
    intro i z h hx
    refine g_iload_n X 3 d_R_finish_22 rfl rfl ?_
    refine g_bipush X (v := nI 64) d_R_finish_23 (by decide) ?_
    refine n_ge X 96 d_R_finish_25 (by decide) (by omega) (by omega) (fun h25 => ?_) (fun h25 => ?_)
    · exact g_sb hx ⟨rfl, rfl, rfl, trivial⟩
    · exact absurd h25 (by omega)
  | succ n ih =>
    intro i z h hx
    refine g_iload_n X 3 d_R_finish_22 rfl rfl ?_
    refine g_bipush X (v := nI 64) d_R_finish_23 (by decide) ?_
    refine n_ge X 96 d_R_finish_25 (by decide) (by omega) (by omega) (fun h25 => ?_) (fun h25 => ?_)
    · exact absurd h25 (by omega)
    · refine g_aload_n X 0 d_R_finish_28 rfl rfl ?_
      refine q_has X d_R_finish_29 ?_
      refine g_bipush X (v := nI 64) d_R_finish_32 (by decide) ?_
      refine g_iload_n X 1 d_R_finish_34 rfl rfl ?_
      refine n_mul X d_R_finish_35 ?_
      refine g_iload_n X 3 d_R_finish_36 rfl rfl ?_
      refine n_add X d_R_finish_37 ?_
      refine g_aload_n X 0 d_R_finish_38 rfl rfl ?_
      refine q_there X d_R_finish_39 ?_
      refine g_iload_n X 3 d_R_finish_42 rfl rfl ?_
      refine a_there X (by omega) d_R_finish_43 ?_
      refine z_eq X 71 d_R_finish_44 (by decide) (fun h44 => ?_) (fun h44 => ?_)
      · refine g_iconst X (v := nI 0) d_R_finish_71 (by decide) ?_
        refine e_has X hi false (by decide) (by omega) d_R_finish_72 ?_
        refine g_aload_n X 0 d_R_finish_73 rfl rfl ?_
        refine q_value X d_R_finish_74 ?_
        refine g_bipush X (v := nI 64) d_R_finish_77 (by decide) ?_
        refine g_iload_n X 1 d_R_finish_79 rfl rfl ?_
        refine n_mul X d_R_finish_80 ?_
        refine g_iload_n X 3 d_R_finish_81 rfl rfl ?_
        refine n_add X d_R_finish_82 ?_
        refine g_aload_n X 0 d_R_finish_83 rfl rfl ?_
        refine q_made X d_R_finish_84 ?_
        refine g_iload_n X 3 d_R_finish_87 rfl rfl ?_
        refine a_made X (by omega) d_R_finish_88 ?_
        refine e_value X hi (by omega) d_R_finish_89 ?_
        refine g_iinc X d_R_finish_90 rfl (nI_1 _) (by decide) ?_
        refine g_goto X 22 d_R_finish_93 (by decide) ?_
        exact g_sb (ih (i + 1) _ (by omega) (g_fl (wf := fun z => (rl δ b th wd hg (s.1, s.2.1, z) w)) (lf := fun z => [(0, .ref (b 0)), (1, .int (nI to)), (2, .int x)]) (F := fij w to x) (by simp [fij, kz, h44]) hx)) ⟨rfl, rfl, rfl, rfl, trivial⟩
      · refine g_aload_n X 0 d_R_finish_47 rfl rfl ?_
        refine q_made X d_R_finish_48 ?_
        refine g_iload_n X 3 d_R_finish_51 rfl rfl ?_
        refine a_made X (by omega) d_R_finish_52 ?_
        refine g_lconst X (v := 0) d_R_finish_53 (by decide) ?_
        refine l_ne X 67 d_R_finish_54 d_R_finish_55 (by decide) (fun h55 => ?_) (fun h55 => ?_)
        · refine g_iconst X (v := nI 1) d_R_finish_67 (by decide) ?_
          refine g_goto X 72 d_R_finish_68 (by decide) ?_
          refine e_has X hi true (by decide) (by omega) d_R_finish_72 ?_
          refine g_aload_n X 0 d_R_finish_73 rfl rfl ?_
          refine q_value X d_R_finish_74 ?_
          refine g_bipush X (v := nI 64) d_R_finish_77 (by decide) ?_
          refine g_iload_n X 1 d_R_finish_79 rfl rfl ?_
          refine n_mul X d_R_finish_80 ?_
          refine g_iload_n X 3 d_R_finish_81 rfl rfl ?_
          refine n_add X d_R_finish_82 ?_
          refine g_aload_n X 0 d_R_finish_83 rfl rfl ?_
          refine q_made X d_R_finish_84 ?_
          refine g_iload_n X 3 d_R_finish_87 rfl rfl ?_
          refine a_made X (by omega) d_R_finish_88 ?_
          refine e_value X hi (by omega) d_R_finish_89 ?_
          refine g_iinc X d_R_finish_90 rfl (nI_1 _) (by decide) ?_
          refine g_goto X 22 d_R_finish_93 (by decide) ?_
          exact g_sb (ih (i + 1) _ (by omega) (g_fl (wf := fun z => (rl δ b th wd hg (s.1, s.2.1, z) w)) (lf := fun z => [(0, .ref (b 0)), (1, .int (nI to)), (2, .int x)]) (F := fij w to x) (by simp [fij, kz, h44, h55]) hx)) ⟨rfl, rfl, rfl, rfl, trivial⟩
        · refine g_iload_n X 2 d_R_finish_58 rfl rfl ?_
          refine g_if_eq X 71 d_R_finish_59 (by decide) (fun h59 => ?_) (fun h59 => ?_)
          · refine g_iconst X (v := nI 0) d_R_finish_71 (by decide) ?_
            refine e_has X hi false (by decide) (by omega) d_R_finish_72 ?_
            refine g_aload_n X 0 d_R_finish_73 rfl rfl ?_
            refine q_value X d_R_finish_74 ?_
            refine g_bipush X (v := nI 64) d_R_finish_77 (by decide) ?_
            refine g_iload_n X 1 d_R_finish_79 rfl rfl ?_
            refine n_mul X d_R_finish_80 ?_
            refine g_iload_n X 3 d_R_finish_81 rfl rfl ?_
            refine n_add X d_R_finish_82 ?_
            refine g_aload_n X 0 d_R_finish_83 rfl rfl ?_
            refine q_made X d_R_finish_84 ?_
            refine g_iload_n X 3 d_R_finish_87 rfl rfl ?_
            refine a_made X (by omega) d_R_finish_88 ?_
            refine e_value X hi (by omega) d_R_finish_89 ?_
            refine g_iinc X d_R_finish_90 rfl (nI_1 _) (by decide) ?_
            refine g_goto X 22 d_R_finish_93 (by decide) ?_
            exact g_sb (ih (i + 1) _ (by omega) (g_fl (wf := fun z => (rl δ b th wd hg (s.1, s.2.1, z) w)) (lf := fun z => [(0, .ref (b 0)), (1, .int (nI to)), (2, .int x)]) (F := fij w to x) (by simp [fij, kz, h44, h55, h59]) hx)) ⟨rfl, rfl, rfl, rfl, trivial⟩
          · refine g_iload_n X 2 d_R_finish_62 rfl rfl ?_
            refine g_iconst X (v := nI 2) d_R_finish_63 (by decide) ?_
            refine g_icmp_eq X 71 d_R_finish_64 (by decide) (fun h64 => ?_) (fun h64 => ?_)
            · refine g_iconst X (v := nI 0) d_R_finish_71 (by decide) ?_
              refine e_has X hi false (by decide) (by omega) d_R_finish_72 ?_
              refine g_aload_n X 0 d_R_finish_73 rfl rfl ?_
              refine q_value X d_R_finish_74 ?_
              refine g_bipush X (v := nI 64) d_R_finish_77 (by decide) ?_
              refine g_iload_n X 1 d_R_finish_79 rfl rfl ?_
              refine n_mul X d_R_finish_80 ?_
              refine g_iload_n X 3 d_R_finish_81 rfl rfl ?_
              refine n_add X d_R_finish_82 ?_
              refine g_aload_n X 0 d_R_finish_83 rfl rfl ?_
              refine q_made X d_R_finish_84 ?_
              refine g_iload_n X 3 d_R_finish_87 rfl rfl ?_
              refine a_made X (by omega) d_R_finish_88 ?_
              refine e_value X hi (by omega) d_R_finish_89 ?_
              refine g_iinc X d_R_finish_90 rfl (nI_1 _) (by decide) ?_
              refine g_goto X 22 d_R_finish_93 (by decide) ?_
              exact g_sb (ih (i + 1) _ (by omega) (g_fl (wf := fun z => (rl δ b th wd hg (s.1, s.2.1, z) w)) (lf := fun z => [(0, .ref (b 0)), (1, .int (nI to)), (2, .int x)]) (F := fij w to x) (by simp [fij, kz, h44, h55, h59, h64]) hx)) ⟨rfl, rfl, rfl, rfl, trivial⟩
            · refine g_iconst X (v := nI 1) d_R_finish_67 (by decide) ?_
              refine g_goto X 72 d_R_finish_68 (by decide) ?_
              refine e_has X hi true (by decide) (by omega) d_R_finish_72 ?_
              refine g_aload_n X 0 d_R_finish_73 rfl rfl ?_
              refine q_value X d_R_finish_74 ?_
              refine g_bipush X (v := nI 64) d_R_finish_77 (by decide) ?_
              refine g_iload_n X 1 d_R_finish_79 rfl rfl ?_
              refine n_mul X d_R_finish_80 ?_
              refine g_iload_n X 3 d_R_finish_81 rfl rfl ?_
              refine n_add X d_R_finish_82 ?_
              refine g_aload_n X 0 d_R_finish_83 rfl rfl ?_
              refine q_made X d_R_finish_84 ?_
              refine g_iload_n X 3 d_R_finish_87 rfl rfl ?_
              refine a_made X (by omega) d_R_finish_88 ?_
              refine e_value X hi (by omega) d_R_finish_89 ?_
              refine g_iinc X d_R_finish_90 rfl (nI_1 _) (by decide) ?_
              refine g_goto X 22 d_R_finish_93 (by decide) ?_
              exact g_sb (ih (i + 1) _ (by omega) (g_fl (wf := fun z => (rl δ b th wd hg (s.1, s.2.1, z) w)) (lf := fun z => [(0, .ref (b 0)), (1, .int (nI to)), (2, .int x)]) (F := fij w to x) (by simp [fij, kz, h44, h55, h59, h64]) hx)) ⟨rfl, rfl, rfl, rfl, trivial⟩
set_option maxHeartbeats 4000000 in
set_option maxRecDepth 100000 in
theorem c_R_finish {l : Launch} (htr : l.stackTraces = false) {δ : EX} {b : Nat → Nat} (hi : In7 b) {th wd hg : Nat} {s : SS} {w : WS} {to : Nat} {x : Int32} (hr : to < 6) : CTN l y_R_finish cw_R_finish (RM 1) δ (Br b) (rl δ b th wd hg s w) [.ref (b 0), .int (nI to), .int x] (some (.int (nI (en (fiH s w to x).1 to)))) (rl δ b th wd hg (fiS s w wd hg to x) w) := by
  refine CT.ofN (lv := [(0, .ref (b 0)), (1, .int (nI to)), (2, .int x)]) (Or.inl ⟨rfl, rfl⟩) (by decide) htr rfl (Nat.le_of_ble_eq_true rfl) (fun κ hl X => ?_)
  subst hl
  refine g_aload_n X 0 d_R_finish_0 rfl rfl ?_
  refine q_rows X d_R_finish_1 ?_
  refine g_iload_n X 1 d_R_finish_4 rfl rfl ?_
  refine g_aload_n X 0 d_R_finish_5 rfl rfl ?_
  refine q_high X d_R_finish_6 ?_
  refine e_rows X hi (by omega) d_R_finish_9 ?_
  refine g_aload_n X 0 d_R_finish_10 rfl rfl ?_
  refine q_columns X d_R_finish_11 ?_
  refine g_iload_n X 1 d_R_finish_14 rfl rfl ?_
  refine g_aload_n X 0 d_R_finish_15 rfl rfl ?_
  refine q_wide X d_R_finish_16 ?_
  refine e_columns X hi (by omega) d_R_finish_19 ?_
  refine g_iconst X (v := nI 0) d_R_finish_20 (by decide) ?_
  refine g_istore_n X 3 d_R_finish_21 rfl (by decide) ?_
  refine g_sb (l_R_finish X htr hi (s := (va_up s.1 to hg, va_up s.2.1 to wd, s.2.2)) hr 64 0 _ (by omega) ?_) ⟨rfl, rfl, rfl, rfl, trivial⟩
  refine g_aload_n X 0 d_R_finish_96 rfl rfl ?_
  refine g_iload_n X 1 d_R_finish_97 rfl rfl ?_
  refine g_VP X KOk.n v_R_50 (q0 := 0) rfl (ci := 2) rfl (c_R_entries htr hr) d_R_finish_98 rfl ?_ ?_
  · exact ⟨Nat.le_of_ble_eq_true rfl, Nat.le_of_ble_eq_true rfl, Nat.le_of_ble_eq_true rfl, Nat.le_of_ble_eq_true rfl⟩
  exact g_iret X KOk.n d_R_finish_101 ⟨rfl, rfl⟩
def crj (s : SS) (a c k i j t : Nat) (z : Bool × Int64 × Bool) : Bool × Int64 × Bool :=
  if z.2.2 = true then z else if s.2.2.1 (64 * a + 8 * i + t) = true ∧ s.2.2.1 (64 * c + 8 * t + j) = true then
    (true, if z.1 = true then su0 k z.2.1 (prV k (s.2.2.2 (64 * a + 8 * i + t)) (s.2.2.2 (64 * c + 8 * t + j))) else prV k (s.2.2.2 (64 * a + 8 * i + t)) (s.2.2.2 (64 * c + 8 * t + j)),
      if z.1 = true then (z.2.2 || prF k (s.2.2.2 (64 * a + 8 * i + t)) (s.2.2.2 (64 * c + 8 * t + j))) || !inR (su0 k z.2.1 (prV k (s.2.2.2 (64 * a + 8 * i + t)) (s.2.2.2 (64 * c + 8 * t + j)))) else z.2.2 || prF k (s.2.2.2 (64 * a + 8 * i + t)) (s.2.2.2 (64 * c + 8 * t + j))) else z
theorem cr_far {s : SS} {a c k i j : Nat} {z : Bool × Int64 × Bool} (h : z.2.2 = true) : ∀ n t, fl (crj s a c k i j) t n z = z
  | 0, _ => rfl
  | n + 1, t => by
    have e : crj s a c k i j t z = z := by unfold crj; rw [if_pos h]
    show fl (crj s a c k i j) (t + 1) n (crj s a c k i j t z) = z
    rw [e]
    exact cr_far h n (t + 1)
def crZ (s : SS) (w : WS) (a c k i j : Nat) : Bool × Int64 × Bool := fl (crj s a c k i j) 0 (s.2.1 a) (false, 0, w.1)
def crS (s : SS) (w : WS) (a c k i j : Nat) : WS := if (crZ s w a c k i j).1 = true then mkS ((crZ s w a c k i j).2.2, w.2) (8 * i + j) (crZ s w a c k i j).2.1 else ((crZ s w a c k i j).2.2, w.2)
set_option maxHeartbeats 4000000 in
set_option maxRecDepth 100000 in
theorem l_R_cross {κ : KX} {δ : EX} {b : Nat → Nat} {th wd hg : Nat} {P : OC → va_W → Prop} (X : XO κ R_R b_R_cross 14 none δ (RM 2) (Br b) []) (htr : (xl κ).stackTraces = false) (hi : In7 b) {s : SS} {w : WS} {a c k ii jj : Nat} (ha : a < 6) (hc : c < 6) (hk : k < 4) (h1 : ii < 8) (h2 : jj < 8) (h9 : s.2.1 a ≤ 8) : ∀ (n i : Nat) (z : Bool × Int64 × Bool), i + n = s.2.1 a → G κ 14 δ (Kn κ (Br b)) (Qe κ δ (Br b) P) 0 0 (rl δ b th wd hg s (((fl (crj s a c k ii jj) i n z)).2.2, w.2)) [(0, .ref (b 0)), (1, .int (nI a)), (2, .int (nI c)), (3, .int (nI k)), (4, .int (nI ii)), (5, .int (nI jj)), (6, .int (b2 ((fl (crj s a c k ii jj) i n z)).1)), (7, .long ((fl (crj s a c k ii jj) i n z)).2.1)] [] 128 → G κ 14 δ (Kn κ (Br b)) (Qe κ δ (Br b) P) 0 0 (rl δ b th wd hg s ((z).2.2, w.2)) [(0, .ref (b 0)), (1, .int (nI a)), (2, .int (nI c)), (3, .int (nI k)), (4, .int (nI ii)), (5, .int (nI jj)), (6, .int (b2 (z).1)), (7, .long (z).2.1), (9, .int (nI (i)))] [] 9 := by
  intro n
  induction n with
  | zero =>
    intro i z h hx
    refine g_iload X d_R_cross_9 rfl ?_
    refine g_aload_n X 0 d_R_cross_11 rfl rfl ?_
    refine q_columns X d_R_cross_12 ?_
    refine g_iload_n X 1 d_R_cross_15 rfl rfl ?_
    refine a_columns X (by omega) d_R_cross_16 ?_
    refine n_ge X 128 d_R_cross_17 (by decide) (by omega) (by omega) (fun h17 => ?_) (fun h17 => ?_)
    · exact g_sb hx ⟨rfl, rfl, rfl, rfl, rfl, rfl, rfl, rfl, trivial⟩
    · exact absurd h17 (by omega)
  | succ n ih =>
    intro i z h hx
    refine g_iload X d_R_cross_9 rfl ?_
    refine g_aload_n X 0 d_R_cross_11 rfl rfl ?_
    refine q_columns X d_R_cross_12 ?_
    refine g_iload_n X 1 d_R_cross_15 rfl rfl ?_
    refine a_columns X (by omega) d_R_cross_16 ?_
    refine n_ge X 128 d_R_cross_17 (by decide) (by omega) (by omega) (fun h17 => ?_) (fun h17 => ?_)
    · exact absurd h17 (by omega)
    · refine g_aload_n X 0 d_R_cross_20 rfl rfl ?_
      refine q_far X d_R_cross_21 ?_
      refine z_ne X 128 d_R_cross_24 (by decide) (fun h24 => ?_) (fun h24 => ?_)
      · rw [cr_far h24] at hx
        exact g_sb hx ⟨rfl, rfl, rfl, rfl, rfl, rfl, rfl, rfl, trivial⟩
      · refine g_bipush X (v := nI 64) d_R_cross_27 (by decide) ?_
        refine g_iload_n X 1 d_R_cross_29 rfl rfl ?_
        refine n_mul X d_R_cross_30 ?_
        refine g_bipush X (v := nI 8) d_R_cross_31 (by decide) ?_
        refine g_iload X d_R_cross_33 rfl ?_
        refine n_mul X d_R_cross_35 ?_
        refine n_add X d_R_cross_36 ?_
        refine g_iload X d_R_cross_37 rfl ?_
        refine n_add X d_R_cross_39 ?_
        refine g_istore X d_R_cross_40 (by decide) ?_
        refine g_bipush X (v := nI 64) d_R_cross_42 (by decide) ?_
        refine g_iload_n X 2 d_R_cross_44 rfl rfl ?_
        refine n_mul X d_R_cross_45 ?_
        refine g_bipush X (v := nI 8) d_R_cross_46 (by decide) ?_
        refine g_iload X d_R_cross_48 rfl ?_
        refine n_mul X d_R_cross_50 ?_
        refine n_add X d_R_cross_51 ?_
        refine g_iload X d_R_cross_52 rfl ?_
        refine n_add X d_R_cross_54 ?_
        refine g_istore X d_R_cross_55 (by decide) ?_
        refine g_aload_n X 0 d_R_cross_57 rfl rfl ?_
        refine q_has X d_R_cross_58 ?_
        refine g_iload X d_R_cross_61 rfl ?_
        refine a_has X (by omega) d_R_cross_63 ?_
        refine z_eq X 122 d_R_cross_64 (by decide) (fun h64 => ?_) (fun h64 => ?_)
        · refine g_iinc X d_R_cross_122 rfl (nI_1 _) (by decide) ?_
          refine g_goto X 9 d_R_cross_125 (by decide) ?_
          exact g_sb (ih (i + 1) z (by omega) (g_fl (wf := fun z => (rl δ b th wd hg s ((z).2.2, w.2))) (lf := fun z => [(0, .ref (b 0)), (1, .int (nI a)), (2, .int (nI c)), (3, .int (nI k)), (4, .int (nI ii)), (5, .int (nI jj)), (6, .int (b2 (z).1)), (7, .long (z).2.1)]) (F := crj s a c k ii jj) (by simp [crj, show z.2.2 = false from h24, h64]) hx)) ⟨rfl, rfl, rfl, rfl, rfl, rfl, rfl, rfl, rfl, trivial⟩
        · refine g_aload_n X 0 d_R_cross_67 rfl rfl ?_
          refine q_has X d_R_cross_68 ?_
          refine g_iload X d_R_cross_71 rfl ?_
          refine a_has X (by omega) d_R_cross_73 ?_
          refine z_eq X 122 d_R_cross_74 (by decide) (fun h74 => ?_) (fun h74 => ?_)
          · refine g_iinc X d_R_cross_122 rfl (nI_1 _) (by decide) ?_
            refine g_goto X 9 d_R_cross_125 (by decide) ?_
            exact g_sb (ih (i + 1) z (by omega) (g_fl (wf := fun z => (rl δ b th wd hg s ((z).2.2, w.2))) (lf := fun z => [(0, .ref (b 0)), (1, .int (nI a)), (2, .int (nI c)), (3, .int (nI k)), (4, .int (nI ii)), (5, .int (nI jj)), (6, .int (b2 (z).1)), (7, .long (z).2.1)]) (F := crj s a c k ii jj) (by simp [crj, show z.2.2 = false from h24, h64, h74]) hx)) ⟨rfl, rfl, rfl, rfl, rfl, rfl, rfl, rfl, rfl, trivial⟩
          · refine g_aload_n X 0 d_R_cross_77 rfl rfl ?_
            refine g_iload_n X 3 d_R_cross_78 rfl rfl ?_
            refine g_aload_n X 0 d_R_cross_79 rfl rfl ?_
            refine q_value X d_R_cross_80 ?_
            refine g_iload X d_R_cross_83 rfl ?_
            refine a_value X (by omega) d_R_cross_85 ?_
            refine g_aload_n X 0 d_R_cross_86 rfl rfl ?_
            refine q_value X d_R_cross_87 ?_
            refine g_iload X d_R_cross_90 rfl ?_
            refine a_value X (by omega) d_R_cross_92 ?_
            refine g_VN1 X v_R_68 (q0 := 0) rfl (ci := 2) rfl (c_R_product htr hi hk) d_R_cross_93 rfl ?_ ?_
            · exact ⟨Nat.le_of_ble_eq_true rfl, Nat.le_of_ble_eq_true rfl, Nat.le_of_ble_eq_true rfl, Nat.le_of_ble_eq_true rfl⟩
            refine g_lstore X d_R_cross_96 (by decide) ?_
            refine g_iload X d_R_cross_98 rfl ?_
            refine z_eq X 115 d_R_cross_100 (by decide) (fun h100 => ?_) (fun h100 => ?_)
            · refine g_lload X d_R_cross_115 rfl ?_
              refine g_lstore X d_R_cross_117 (by decide) ?_
              refine g_iconst X (v := nI 1) d_R_cross_119 (by decide) ?_
              refine g_istore X d_R_cross_120 (by decide) ?_
              refine g_iinc X d_R_cross_122 rfl (nI_1 _) (by decide) ?_
              refine g_goto X 9 d_R_cross_125 (by decide) ?_
              exact g_sb (ih (i + 1) (true, prV k (s.2.2.2 (64 * a + 8 * ii + i)) (s.2.2.2 (64 * c + 8 * i + jj)), z.2.2 || prF k (s.2.2.2 (64 * a + 8 * ii + i)) (s.2.2.2 (64 * c + 8 * i + jj))) (by omega) (g_fl (wf := fun z => (rl δ b th wd hg s ((z).2.2, w.2))) (lf := fun z => [(0, .ref (b 0)), (1, .int (nI a)), (2, .int (nI c)), (3, .int (nI k)), (4, .int (nI ii)), (5, .int (nI jj)), (6, .int (b2 (z).1)), (7, .long (z).2.1)]) (F := crj s a c k ii jj) (by simp [crj, show z.2.2 = false from h24, h64, h74, h100]) hx)) ⟨rfl, rfl, rfl, rfl, rfl, rfl, rfl, rfl, rfl, trivial⟩
            · refine g_aload_n X 0 d_R_cross_103 rfl rfl ?_
              refine g_iload_n X 3 d_R_cross_104 rfl rfl ?_
              refine g_lload X d_R_cross_105 rfl ?_
              refine g_lload X d_R_cross_107 rfl ?_
              refine g_VN1 X v_R_72 (q0 := 0) rfl (ci := 2) rfl (c_R_sum htr hi hk) d_R_cross_109 rfl ?_ ?_
              · exact ⟨Nat.le_of_ble_eq_true rfl, Nat.le_of_ble_eq_true rfl, Nat.le_of_ble_eq_true rfl, Nat.le_of_ble_eq_true rfl⟩
              refine g_goto X 117 d_R_cross_112 (by decide) ?_
              refine g_lstore X d_R_cross_117 (by decide) ?_
              refine g_iconst X (v := nI 1) d_R_cross_119 (by decide) ?_
              refine g_istore X d_R_cross_120 (by decide) ?_
              refine g_iinc X d_R_cross_122 rfl (nI_1 _) (by decide) ?_
              refine g_goto X 9 d_R_cross_125 (by decide) ?_
              exact g_sb (ih (i + 1) (true, su0 k z.2.1 (prV k (s.2.2.2 (64 * a + 8 * ii + i)) (s.2.2.2 (64 * c + 8 * i + jj))), (z.2.2 || prF k (s.2.2.2 (64 * a + 8 * ii + i)) (s.2.2.2 (64 * c + 8 * i + jj))) || !inR (su0 k z.2.1 (prV k (s.2.2.2 (64 * a + 8 * ii + i)) (s.2.2.2 (64 * c + 8 * i + jj))))) (by omega) (g_fl (wf := fun z => (rl δ b th wd hg s ((z).2.2, w.2))) (lf := fun z => [(0, .ref (b 0)), (1, .int (nI a)), (2, .int (nI c)), (3, .int (nI k)), (4, .int (nI ii)), (5, .int (nI jj)), (6, .int (b2 (z).1)), (7, .long (z).2.1)]) (F := crj s a c k ii jj) (by simp [crj, show z.2.2 = false from h24, h64, h74, h100]) hx)) ⟨rfl, rfl, rfl, rfl, rfl, rfl, rfl, rfl, rfl, trivial⟩
set_option maxHeartbeats 4000000 in
set_option maxRecDepth 100000 in
theorem c_R_cross {l : Launch} (htr : l.stackTraces = false) {δ : EX} {b : Nat → Nat} (hi : In7 b) {th wd hg : Nat} {s : SS} {w : WS} {a c k ii jj : Nat} (ha : a < 6) (hc : c < 6) (hk : k < 4) (h1 : ii < 8) (h2 : jj < 8) (h9 : s.2.1 a ≤ 8) : CTN l y_R_cross cw_R_cross (RM 2) δ (Br b) (rl δ b th wd hg s w) [.ref (b 0), .int (nI a), .int (nI c), .int (nI k), .int (nI ii), .int (nI jj)] none (rl δ b th wd hg s (crS s w a c k ii jj)) := by
  refine CT.ofN (lv := [(0, .ref (b 0)), (1, .int (nI a)), (2, .int (nI c)), (3, .int (nI k)), (4, .int (nI ii)), (5, .int (nI jj))]) (Or.inl ⟨rfl, rfl⟩) (by decide) htr rfl (Nat.le_of_ble_eq_true rfl) (fun κ hl X => ?_)
  subst hl
  refine g_iconst X (v := nI 0) d_R_cross_0 (by decide) ?_
  refine g_istore X d_R_cross_1 (by decide) ?_
  refine g_lconst X (v := 0) d_R_cross_3 (by decide) ?_
  refine g_lstore X d_R_cross_4 (by decide) ?_
  refine g_iconst X (v := nI 0) d_R_cross_6 (by decide) ?_
  refine g_istore X d_R_cross_7 (by decide) ?_
  refine g_sb (l_R_cross X htr hi ha hc hk h1 h2 h9 (s.2.1 a) 0 (false, 0, w.1) (by omega) ?_) ⟨rfl, rfl, rfl, rfl, rfl, rfl, rfl, rfl, rfl, trivial⟩
  show G κ _ δ _ _ 0 0 (rl δ b th wd hg s ((crZ s w a c k ii jj).2.2, w.2)) [(0, .ref (b 0)), (1, .int (nI a)), (2, .int (nI c)), (3, .int (nI k)), (4, .int (nI ii)), (5, .int (nI jj)), (6, .int (b2 (crZ s w a c k ii jj).1)), (7, .long (crZ s w a c k ii jj).2.1)] [] 128
  refine g_iload X d_R_cross_128 rfl ?_
  refine z_eq X 143 d_R_cross_130 (by decide) (fun h130 => ?_) (fun h130 => ?_)
  · exact g_vret X KOk.n d_R_cross_143 ⟨rfl, by simp [crS, h130]⟩
  · refine g_aload_n X 0 d_R_cross_133 rfl rfl ?_
    refine g_iload X d_R_cross_134 rfl ?_
    refine g_iload X d_R_cross_136 rfl ?_
    refine g_lload X d_R_cross_138 rfl ?_
    refine g_VN1 X v_R_75 (q0 := 0) rfl (ci := 2) rfl (c_R_make htr hi h1 h2) d_R_cross_140 rfl ?_ ?_
    · exact ⟨Nat.le_of_ble_eq_true rfl, Nat.le_of_ble_eq_true rfl, Nat.le_of_ble_eq_true rfl, Nat.le_of_ble_eq_true rfl⟩
    exact g_vret X KOk.n d_R_cross_143 ⟨rfl, by simp [crS, h130]⟩
def joj (s : SS) (to k p : Nat) (w : WS) : WS := if s.2.2.1 (64 * to + p) = true then (if w.2.1 p = true then (w.1 || !inR (su0 k (s.2.2.2 (64 * to + p)) (w.2.2 p)), va_up w.2.1 p true, vp_updL w.2.2 p (su0 k (s.2.2.2 (64 * to + p)) (w.2.2 p))) else mkS w p (s.2.2.2 (64 * to + p))) else w
def joS (s : SS) (to k : Nat) (w : WS) : WS := fl (joj s to k) 0 64 w
set_option maxHeartbeats 4000000 in
set_option maxRecDepth 100000 in
theorem l_R_join {κ : KX} {δ : EX} {b : Nat → Nat} {th wd hg : Nat} {P : OC → va_W → Prop} (X : XO κ R_R b_R_join 5 none δ (RM 2) (Br b) []) (htr : (xl κ).stackTraces = false) (hi : In7 b) {s : SS} {to k : Nat} (hr : to < 6) (hk : k < 4) : ∀ (n i : Nat) (w : WS), i + n = 64 → G κ 5 δ (Kn κ (Br b)) (Qe κ δ (Br b) P) 0 0 (rl δ b th wd hg s (fl (joj s to k) i n w)) [(0, .ref (b 0)), (1, .int (nI to)), (2, .int (nI k))] [] 82 → G κ 5 δ (Kn κ (Br b)) (Qe κ δ (Br b) P) 0 0 (rl δ b th wd hg s w) [(0, .ref (b 0)), (1, .int (nI to)), (2, .int (nI k)), (3, .int (nI (i)))] [] 2 := by
  intro n
  induction n with
  | zero =>
    intro i w h hx
    refine g_iload_n X 3 d_R_join_2 rfl rfl ?_
    refine g_bipush X (v := nI 64) d_R_join_3 (by decide) ?_
    refine n_ge X 82 d_R_join_5 (by decide) (by omega) (by omega) (fun h5 => ?_) (fun h5 => ?_)
    · exact g_sb hx ⟨rfl, rfl, rfl, trivial⟩
    · exact absurd h5 (by omega)
  | succ n ih =>
    intro i w h hx
    refine g_iload_n X 3 d_R_join_2 rfl rfl ?_
    refine g_bipush X (v := nI 64) d_R_join_3 (by decide) ?_
    refine n_ge X 82 d_R_join_5 (by decide) (by omega) (by omega) (fun h5 => ?_) (fun h5 => ?_)
    · exact absurd h5 (by omega)
    · refine g_bipush X (v := nI 64) d_R_join_8 (by decide) ?_
      refine g_iload_n X 1 d_R_join_10 rfl rfl ?_
      refine n_mul X d_R_join_11 ?_
      refine g_iload_n X 3 d_R_join_12 rfl rfl ?_
      refine n_add X d_R_join_13 ?_
      refine g_istore X d_R_join_14 (by decide) ?_
      refine g_aload_n X 0 d_R_join_16 rfl rfl ?_
      refine q_has X d_R_join_17 ?_
      refine g_iload X d_R_join_20 rfl ?_
      refine a_has X (by omega) d_R_join_22 ?_
      refine z_eq X 76 d_R_join_23 (by decide) (fun h23 => ?_) (fun h23 => ?_)
      · refine g_iinc X d_R_join_76 rfl (nI_1 _) (by decide) ?_
        refine g_goto X 2 d_R_join_79 (by decide) ?_
        exact g_sb (ih (i + 1) _ (by omega) (g_fl (wf := fun z => (rl δ b th wd hg s z)) (lf := fun z => [(0, .ref (b 0)), (1, .int (nI to)), (2, .int (nI k))]) (F := joj s to k) (by simp [joj, mkS, h23]) hx)) ⟨rfl, rfl, rfl, rfl, trivial⟩
      · refine g_aload_n X 0 d_R_join_26 rfl rfl ?_
        refine q_made X d_R_join_27 ?_
        refine g_iload_n X 3 d_R_join_30 rfl rfl ?_
        refine g_aload_n X 0 d_R_join_31 rfl rfl ?_
        refine q_there X d_R_join_32 ?_
        refine g_iload_n X 3 d_R_join_35 rfl rfl ?_
        refine a_there X (by omega) d_R_join_36 ?_
        refine z_eq X 61 d_R_join_37 (by decide) (fun h37 => ?_) (fun h37 => ?_)
        · refine g_aload_n X 0 d_R_join_61 rfl rfl ?_
          refine q_value X d_R_join_62 ?_
          refine g_iload X d_R_join_65 rfl ?_
          refine a_value X (by omega) d_R_join_67 ?_
          refine e_made X hi (by omega) d_R_join_68 ?_
          refine g_aload_n X 0 d_R_join_69 rfl rfl ?_
          refine q_there X d_R_join_70 ?_
          refine g_iload_n X 3 d_R_join_73 rfl rfl ?_
          refine g_iconst X (v := nI 1) d_R_join_74 (by decide) ?_
          refine e_there X hi true (by decide) (by omega) d_R_join_75 ?_
          refine g_iinc X d_R_join_76 rfl (nI_1 _) (by decide) ?_
          refine g_goto X 2 d_R_join_79 (by decide) ?_
          exact g_sb (ih (i + 1) _ (by omega) (g_fl (wf := fun z => (rl δ b th wd hg s z)) (lf := fun z => [(0, .ref (b 0)), (1, .int (nI to)), (2, .int (nI k))]) (F := joj s to k) (by simp [joj, mkS, h23, h37]) hx)) ⟨rfl, rfl, rfl, rfl, trivial⟩
        · refine g_aload_n X 0 d_R_join_40 rfl rfl ?_
          refine g_iload_n X 2 d_R_join_41 rfl rfl ?_
          refine g_aload_n X 0 d_R_join_42 rfl rfl ?_
          refine q_value X d_R_join_43 ?_
          refine g_iload X d_R_join_46 rfl ?_
          refine a_value X (by omega) d_R_join_48 ?_
          refine g_aload_n X 0 d_R_join_49 rfl rfl ?_
          refine q_made X d_R_join_50 ?_
          refine g_iload_n X 3 d_R_join_53 rfl rfl ?_
          refine a_made X (by omega) d_R_join_54 ?_
          refine g_VN1 X v_R_72 (q0 := 0) rfl (ci := 2) rfl (c_R_sum htr hi hk) d_R_join_55 rfl ?_ ?_
          · exact ⟨Nat.le_of_ble_eq_true rfl, Nat.le_of_ble_eq_true rfl, Nat.le_of_ble_eq_true rfl, Nat.le_of_ble_eq_true rfl⟩
          refine g_goto X 68 d_R_join_58 (by decide) ?_
          refine e_made X hi (by omega) d_R_join_68 ?_
          refine g_aload_n X 0 d_R_join_69 rfl rfl ?_
          refine q_there X d_R_join_70 ?_
          refine g_iload_n X 3 d_R_join_73 rfl rfl ?_
          refine g_iconst X (v := nI 1) d_R_join_74 (by decide) ?_
          refine e_there X hi true (by decide) (by omega) d_R_join_75 ?_
          refine g_iinc X d_R_join_76 rfl (nI_1 _) (by decide) ?_
          refine g_goto X 2 d_R_join_79 (by decide) ?_
          exact g_sb (ih (i + 1) _ (by omega) (g_fl (wf := fun z => (rl δ b th wd hg s z)) (lf := fun z => [(0, .ref (b 0)), (1, .int (nI to)), (2, .int (nI k))]) (F := joj s to k) (by simp [joj, mkS, h23, h37]) hx)) ⟨rfl, rfl, rfl, rfl, trivial⟩
set_option maxHeartbeats 4000000 in
set_option maxRecDepth 100000 in
theorem c_R_join {l : Launch} (htr : l.stackTraces = false) {δ : EX} {b : Nat → Nat} (hi : In7 b) {th wd hg : Nat} {s : SS} {w : WS} {to k : Nat} (hr : to < 6) (hk : k < 4) : CTN l y_R_join cw_R_join (RM 2) δ (Br b) (rl δ b th wd hg s w) [.ref (b 0), .int (nI to), .int (nI k)] none (rl δ b th wd hg s (joS s to k w)) := by
  refine CT.ofN (lv := [(0, .ref (b 0)), (1, .int (nI to)), (2, .int (nI k))]) (Or.inl ⟨rfl, rfl⟩) (by decide) htr rfl (Nat.le_of_ble_eq_true rfl) (fun κ hl X => ?_)
  subst hl
  refine g_iconst X (v := nI 0) d_R_join_0 (by decide) ?_
  refine g_istore_n X 3 d_R_join_1 rfl (by decide) ?_
  refine g_sb (l_R_join X htr hi hr hk 64 0 w (by omega) ?_) ⟨rfl, rfl, rfl, rfl, trivial⟩
  exact g_vret X KOk.n d_R_join_82 ⟨rfl, rfl⟩
end RA2
