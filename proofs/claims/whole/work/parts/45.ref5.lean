section RA5
def tqt (s : SS) (a i j t : Nat) (z : Nat) : Nat := z + if s.2.2.1 (64 * a + 8 * j + i) = true ∧ s.2.2.1 (64 * a + 8 * t + i) = true ∧ s.2.2.1 (64 * a + 8 * t + j) = true then 1 else 0
def tqj (s : SS) (a i j : Nat) (z : Nat) : Nat := fl (tqt s a i j) (j + 1) (s.1 a - (j + 1)) z
def tqi (s : SS) (a i : Nat) (z : Nat) : Nat := fl (tqj s a i) (i + 1) (s.1 a - (i + 1)) z
def tqS (s : SS) (a : Nat) : Nat := fl (tqi s a) 0 (s.1 a) 0
set_option maxHeartbeats 4000000 in
set_option maxRecDepth 100000 in
theorem l_R_tr_t {κ : KX} {δ : EX} {b : Nat → Nat} {th wd hg : Nat} {P : OC → va_W → Prop} (X : XO κ R_R b_R_triangles 7 (some .int) δ (RM 1) (Br b) []) (htr : (xl κ).stackTraces = false) (hi : In7 b) {s : SS} {w : WS} {a : Nat} (ha : a < 6) (h8 : s.1 a ≤ 8) {ii jj : Nat} (hii : ii < 8) (hjj : jj < 8) : ∀ (n i : Nat) (z : Nat), i + n = s.1 a → G κ 7 δ (Kn κ (Br b)) (Qe κ δ (Br b) P) 0 0 (rl δ b th wd hg s w) [(0, .ref (b 0)), (1, .int (nI a)), (2, .int (nI (fl (tqt s a ii jj) i n z))), (3, .int (nI (64 * a))), (4, .int (nI ii)), (5, .int (nI jj))] [] 160 → G κ 7 δ (Kn κ (Br b)) (Qe κ δ (Br b) P) 0 0 (rl δ b th wd hg s w) [(0, .ref (b 0)), (1, .int (nI a)), (2, .int (nI z)), (3, .int (nI (64 * a))), (4, .int (nI ii)), (5, .int (nI jj)), (6, .int (nI (i)))] [] 81 := by
  intro n
  induction n with
  | zero =>
    intro i z h hx
    refine g_iload X d_R_triangles_81 rfl ?_
    refine g_aload_n X 0 d_R_triangles_83 rfl rfl ?_
    refine q_rows X d_R_triangles_84 ?_
    refine g_iload_n X 1 d_R_triangles_87 rfl rfl ?_
    refine a_rows X (by omega) d_R_triangles_88 ?_
    refine n_ge X 160 d_R_triangles_89 (by decide) (by omega) (by omega) (fun h89 => ?_) (fun h89 => ?_)
    · exact g_sb hx ⟨rfl, rfl, rfl, rfl, rfl, rfl, trivial⟩
    · exact absurd h89 (by omega)
  | succ n ih =>
    intro i z h hx
    refine g_iload X d_R_triangles_81 rfl ?_
    refine g_aload_n X 0 d_R_triangles_83 rfl rfl ?_
    refine q_rows X d_R_triangles_84 ?_
    refine g_iload_n X 1 d_R_triangles_87 rfl rfl ?_
    refine a_rows X (by omega) d_R_triangles_88 ?_
    refine n_ge X 160 d_R_triangles_89 (by decide) (by omega) (by omega) (fun h89 => ?_) (fun h89 => ?_)
    · exact absurd h89 (by omega)
    · refine g_iload_n X 2 d_R_triangles_92 rfl rfl ?_
      refine g_aload_n X 0 d_R_triangles_93 rfl rfl ?_
      refine q_has X d_R_triangles_94 ?_
      refine g_iload_n X 3 d_R_triangles_97 rfl rfl ?_
      refine g_bipush X (v := nI 8) d_R_triangles_98 (by decide) ?_
      refine g_iload X d_R_triangles_100 rfl ?_
      refine n_mul X d_R_triangles_102 ?_
      refine n_add X d_R_triangles_103 ?_
      refine g_iload X d_R_triangles_104 rfl ?_
      refine n_add X d_R_triangles_106 ?_
      refine a_has X (by omega) d_R_triangles_107 ?_
      refine z_eq X 151 d_R_triangles_108 (by decide) (fun h108 => ?_) (fun h108 => ?_)
      · refine g_iconst X (v := nI 0) d_R_triangles_151 (by decide) ?_
        refine n_add X d_R_triangles_152 ?_
        refine g_istore_n X 2 d_R_triangles_153 rfl (by decide) ?_
        refine g_iinc X d_R_triangles_154 rfl (nI_1 _) (by decide) ?_
        refine g_goto X 81 d_R_triangles_157 (by decide) ?_
        exact g_sb (ih (i + 1) _ (by omega) (g_fl (wf := fun z => (rl δ b th wd hg s w)) (lf := fun z => [(0, .ref (b 0)), (1, .int (nI a)), (2, .int (nI z)), (3, .int (nI (64 * a))), (4, .int (nI ii)), (5, .int (nI jj))]) (F := tqt s a ii jj) (by simp [tqt, h108]) hx)) ⟨rfl, rfl, rfl, rfl, rfl, rfl, rfl, trivial⟩
      · refine g_aload_n X 0 d_R_triangles_111 rfl rfl ?_
        refine q_has X d_R_triangles_112 ?_
        refine g_iload_n X 3 d_R_triangles_115 rfl rfl ?_
        refine g_bipush X (v := nI 8) d_R_triangles_116 (by decide) ?_
        refine g_iload X d_R_triangles_118 rfl ?_
        refine n_mul X d_R_triangles_120 ?_
        refine n_add X d_R_triangles_121 ?_
        refine g_iload X d_R_triangles_122 rfl ?_
        refine n_add X d_R_triangles_124 ?_
        refine a_has X (by omega) d_R_triangles_125 ?_
        refine z_eq X 151 d_R_triangles_126 (by decide) (fun h126 => ?_) (fun h126 => ?_)
        · refine g_iconst X (v := nI 0) d_R_triangles_151 (by decide) ?_
          refine n_add X d_R_triangles_152 ?_
          refine g_istore_n X 2 d_R_triangles_153 rfl (by decide) ?_
          refine g_iinc X d_R_triangles_154 rfl (nI_1 _) (by decide) ?_
          refine g_goto X 81 d_R_triangles_157 (by decide) ?_
          exact g_sb (ih (i + 1) _ (by omega) (g_fl (wf := fun z => (rl δ b th wd hg s w)) (lf := fun z => [(0, .ref (b 0)), (1, .int (nI a)), (2, .int (nI z)), (3, .int (nI (64 * a))), (4, .int (nI ii)), (5, .int (nI jj))]) (F := tqt s a ii jj) (by simp [tqt, h108, h126]) hx)) ⟨rfl, rfl, rfl, rfl, rfl, rfl, rfl, trivial⟩
        · refine g_aload_n X 0 d_R_triangles_129 rfl rfl ?_
          refine q_has X d_R_triangles_130 ?_
          refine g_iload_n X 3 d_R_triangles_133 rfl rfl ?_
          refine g_bipush X (v := nI 8) d_R_triangles_134 (by decide) ?_
          refine g_iload X d_R_triangles_136 rfl ?_
          refine n_mul X d_R_triangles_138 ?_
          refine n_add X d_R_triangles_139 ?_
          refine g_iload X d_R_triangles_140 rfl ?_
          refine n_add X d_R_triangles_142 ?_
          refine a_has X (by omega) d_R_triangles_143 ?_
          refine z_eq X 151 d_R_triangles_144 (by decide) (fun h144 => ?_) (fun h144 => ?_)
          · refine g_iconst X (v := nI 0) d_R_triangles_151 (by decide) ?_
            refine n_add X d_R_triangles_152 ?_
            refine g_istore_n X 2 d_R_triangles_153 rfl (by decide) ?_
            refine g_iinc X d_R_triangles_154 rfl (nI_1 _) (by decide) ?_
            refine g_goto X 81 d_R_triangles_157 (by decide) ?_
            exact g_sb (ih (i + 1) _ (by omega) (g_fl (wf := fun z => (rl δ b th wd hg s w)) (lf := fun z => [(0, .ref (b 0)), (1, .int (nI a)), (2, .int (nI z)), (3, .int (nI (64 * a))), (4, .int (nI ii)), (5, .int (nI jj))]) (F := tqt s a ii jj) (by simp [tqt, h108, h126, h144]) hx)) ⟨rfl, rfl, rfl, rfl, rfl, rfl, rfl, trivial⟩
          · refine g_iconst X (v := nI 1) d_R_triangles_147 (by decide) ?_
            refine g_goto X 152 d_R_triangles_148 (by decide) ?_
            refine n_add X d_R_triangles_152 ?_
            refine g_istore_n X 2 d_R_triangles_153 rfl (by decide) ?_
            refine g_iinc X d_R_triangles_154 rfl (nI_1 _) (by decide) ?_
            refine g_goto X 81 d_R_triangles_157 (by decide) ?_
            exact g_sb (ih (i + 1) _ (by omega) (g_fl (wf := fun z => (rl δ b th wd hg s w)) (lf := fun z => [(0, .ref (b 0)), (1, .int (nI a)), (2, .int (nI z)), (3, .int (nI (64 * a))), (4, .int (nI ii)), (5, .int (nI jj))]) (F := tqt s a ii jj) (by simp [tqt, h108, h126, h144]) hx)) ⟨rfl, rfl, rfl, rfl, rfl, rfl, rfl, trivial⟩
set_option maxHeartbeats 4000000 in
set_option maxRecDepth 100000 in
theorem l_R_tr_j {κ : KX} {δ : EX} {b : Nat → Nat} {th wd hg : Nat} {P : OC → va_W → Prop} (X : XO κ R_R b_R_triangles 7 (some .int) δ (RM 1) (Br b) []) (htr : (xl κ).stackTraces = false) (hi : In7 b) {s : SS} {w : WS} {a : Nat} (ha : a < 6) (h8 : s.1 a ≤ 8) {ii : Nat} (hii : ii < 8) : ∀ (n i : Nat) (z : Nat), i + n = s.1 a → G κ 7 δ (Kn κ (Br b)) (Qe κ δ (Br b) P) 0 0 (rl δ b th wd hg s w) [(0, .ref (b 0)), (1, .int (nI a)), (2, .int (nI (fl (tqj s a ii) i n z))), (3, .int (nI (64 * a))), (4, .int (nI ii))] [] 166 → G κ 7 δ (Kn κ (Br b)) (Qe κ δ (Br b) P) 0 0 (rl δ b th wd hg s w) [(0, .ref (b 0)), (1, .int (nI a)), (2, .int (nI z)), (3, .int (nI (64 * a))), (4, .int (nI ii)), (5, .int (nI (i)))] [] 64 := by
  intro n
  induction n with
  | zero =>
    intro i z h hx
    refine g_iload X d_R_triangles_64 rfl ?_
    refine g_aload_n X 0 d_R_triangles_66 rfl rfl ?_
    refine q_rows X d_R_triangles_67 ?_
    refine g_iload_n X 1 d_R_triangles_70 rfl rfl ?_
    refine a_rows X (by omega) d_R_triangles_71 ?_
    refine n_ge X 166 d_R_triangles_72 (by decide) (by omega) (by omega) (fun h72 => ?_) (fun h72 => ?_)
    · exact g_sb hx ⟨rfl, rfl, rfl, rfl, rfl, trivial⟩
    · exact absurd h72 (by omega)
  | succ n ih =>
    intro i z h hx
    refine g_iload X d_R_triangles_64 rfl ?_
    refine g_aload_n X 0 d_R_triangles_66 rfl rfl ?_
    refine q_rows X d_R_triangles_67 ?_
    refine g_iload_n X 1 d_R_triangles_70 rfl rfl ?_
    refine a_rows X (by omega) d_R_triangles_71 ?_
    refine n_ge X 166 d_R_triangles_72 (by decide) (by omega) (by omega) (fun h72 => ?_) (fun h72 => ?_)
    · exact absurd h72 (by omega)
    · refine g_iload X d_R_triangles_75 rfl ?_
      refine g_iconst X (v := nI 1) d_R_triangles_77 (by decide) ?_
      refine n_add X d_R_triangles_78 ?_
      refine g_istore X d_R_triangles_79 (by decide) ?_
      refine g_sb (l_R_tr_t X htr hi ha h8 hii (by omega) (s.1 a - (i + 1)) (i + 1) z (by omega) ?_) ⟨rfl, rfl, rfl, rfl, rfl, rfl, rfl, trivial⟩
      refine g_iinc X d_R_triangles_160 rfl (nI_1 _) (by decide) ?_
      refine g_goto X 64 d_R_triangles_163 (by decide) ?_
      exact g_sb (ih (i + 1) (tqj s a ii i z) (by omega) (g_fl (wf := fun z => (rl δ b th wd hg s w)) (lf := fun z => [(0, .ref (b 0)), (1, .int (nI a)), (2, .int (nI z)), (3, .int (nI (64 * a))), (4, .int (nI ii))]) (F := tqj s a ii) (by rfl) hx)) ⟨rfl, rfl, rfl, rfl, rfl, rfl, trivial⟩
set_option maxHeartbeats 4000000 in
set_option maxRecDepth 100000 in
theorem l_R_tr_i {κ : KX} {δ : EX} {b : Nat → Nat} {th wd hg : Nat} {P : OC → va_W → Prop} (X : XO κ R_R b_R_triangles 7 (some .int) δ (RM 1) (Br b) []) (htr : (xl κ).stackTraces = false) (hi : In7 b) {s : SS} {w : WS} {a : Nat} (ha : a < 6) (h8 : s.1 a ≤ 8) : ∀ (n i : Nat) (z : Nat), i + n = s.1 a → G κ 7 δ (Kn κ (Br b)) (Qe κ δ (Br b) P) 0 0 (rl δ b th wd hg s w) [(0, .ref (b 0)), (1, .int (nI a)), (2, .int (nI (fl (tqi s a) i n z))), (3, .int (nI (64 * a)))] [] 172 → G κ 7 δ (Kn κ (Br b)) (Qe κ δ (Br b) P) 0 0 (rl δ b th wd hg s w) [(0, .ref (b 0)), (1, .int (nI a)), (2, .int (nI z)), (3, .int (nI (64 * a))), (4, .int (nI (i)))] [] 47 := by
  intro n
  induction n with
  | zero =>
    intro i z h hx
    refine g_iload X d_R_triangles_47 rfl ?_
    refine g_aload_n X 0 d_R_triangles_49 rfl rfl ?_
    refine q_rows X d_R_triangles_50 ?_
    refine g_iload_n X 1 d_R_triangles_53 rfl rfl ?_
    refine a_rows X (by omega) d_R_triangles_54 ?_
    refine n_ge X 172 d_R_triangles_55 (by decide) (by omega) (by omega) (fun h55 => ?_) (fun h55 => ?_)
    · exact g_sb hx ⟨rfl, rfl, rfl, rfl, trivial⟩
    · exact absurd h55 (by omega)
  | succ n ih =>
    intro i z h hx
    refine g_iload X d_R_triangles_47 rfl ?_
    refine g_aload_n X 0 d_R_triangles_49 rfl rfl ?_
    refine q_rows X d_R_triangles_50 ?_
    refine g_iload_n X 1 d_R_triangles_53 rfl rfl ?_
    refine a_rows X (by omega) d_R_triangles_54 ?_
    refine n_ge X 172 d_R_triangles_55 (by decide) (by omega) (by omega) (fun h55 => ?_) (fun h55 => ?_)
    · exact absurd h55 (by omega)
    · refine g_iload X d_R_triangles_58 rfl ?_
      refine g_iconst X (v := nI 1) d_R_triangles_60 (by decide) ?_
      refine n_add X d_R_triangles_61 ?_
      refine g_istore X d_R_triangles_62 (by decide) ?_
      refine g_sb (l_R_tr_j X htr hi ha h8 (by omega) (s.1 a - (i + 1)) (i + 1) z (by omega) ?_) ⟨rfl, rfl, rfl, rfl, rfl, rfl, trivial⟩
      refine g_iinc X d_R_triangles_166 rfl (nI_1 _) (by decide) ?_
      refine g_goto X 47 d_R_triangles_169 (by decide) ?_
      exact g_sb (ih (i + 1) (tqi s a i z) (by omega) (g_fl (wf := fun z => (rl δ b th wd hg s w)) (lf := fun z => [(0, .ref (b 0)), (1, .int (nI a)), (2, .int (nI z)), (3, .int (nI (64 * a)))]) (F := tqi s a) (by rfl) hx)) ⟨rfl, rfl, rfl, rfl, rfl, trivial⟩
set_option maxHeartbeats 4000000 in
set_option maxRecDepth 100000 in
theorem c_R_triangles {l : Launch} (htr : l.stackTraces = false) {δ : EX} {b : Nat → Nat} (hi : In7 b) {th wd hg : Nat} {s : SS} {w : WS} {a : Nat} (ha : a < 6) (h8 : ∀ r, r < 6 → s.1 r ≤ 8 ∧ s.2.1 r ≤ 8) (hsq : s.1 a = s.2.1 a) : CTN l y_R_triangles cw_R_triangles (RM 1) δ (Br b) (rl δ b th wd hg s w) [.ref (b 0), .int (nI a)] (some (.int (nI (tqS s a)))) (rl δ b 0 wd hg s w) := by
  refine CT.ofN (lv := [(0, .ref (b 0)), (1, .int (nI a))]) (Or.inl ⟨rfl, rfl⟩) (by decide) htr rfl (Nat.le_of_ble_eq_true rfl) (fun κ hl X => ?_)
  subst hl
  have q8 := h8 a ha
  refine g_aload_n X 0 d_R_triangles_0 rfl rfl ?_
  refine g_iload_n X 1 d_R_triangles_1 rfl rfl ?_
  refine g_SP X KOk.n s_R_38 (c_R_isReg htr ha) d_R_triangles_2 rfl ?_ ?_
  · exact ⟨Nat.le_of_ble_eq_true rfl, Nat.le_of_ble_eq_true rfl, Nat.le_of_ble_eq_true rfl, Nat.le_of_ble_eq_true rfl⟩
  refine g_if_ne X 12 d_R_triangles_5 (by decide) (fun _ => ?_) (fun q => absurd q (by decide))
  refine g_aload_n X 0 d_R_triangles_12 rfl rfl ?_
  refine g_iload_n X 1 d_R_triangles_13 rfl rfl ?_
  refine g_VP X KOk.n v_R_105 (q0 := 0) rfl (ci := 2) rfl (c_R_isSq_t htr ha h8 hsq) d_R_triangles_14 rfl ?_ ?_
  · exact ⟨Nat.le_of_ble_eq_true rfl, Nat.le_of_ble_eq_true rfl, Nat.le_of_ble_eq_true rfl, Nat.le_of_ble_eq_true rfl⟩
  refine g_if_ne X 24 d_R_triangles_17 (by decide) (fun _ => ?_) (fun q => absurd q (by decide))
  refine g_iconst X (v := nI 0) d_R_triangles_24 (by decide) ?_
  refine p_thrown X hi d_R_triangles_25 ?_
  refine g_aload_n X 0 d_R_triangles_28 rfl rfl ?_
  refine q_thrown X d_R_triangles_29 ?_
  refine g_if_le X 37 d_R_triangles_32 (by decide) (fun _ => ?_) (fun q => absurd q (by decide))
  refine g_iconst X (v := nI 0) d_R_triangles_37 (by decide) ?_
  refine g_istore_n X 2 d_R_triangles_38 rfl (by decide) ?_
  refine g_bipush X (v := nI 64) d_R_triangles_39 (by decide) ?_
  refine g_iload_n X 1 d_R_triangles_41 rfl rfl ?_
  refine n_mul X d_R_triangles_42 ?_
  refine g_istore_n X 3 d_R_triangles_43 rfl (by decide) ?_
  refine g_iconst X (v := nI 0) d_R_triangles_44 (by decide) ?_
  refine g_istore X d_R_triangles_45 (by decide) ?_
  refine g_sb (l_R_tr_i X htr hi ha q8.1 (s.1 a) 0 0 (by omega) ?_) ⟨rfl, rfl, rfl, rfl, rfl, trivial⟩
  refine g_iload_n X 2 d_R_triangles_172 rfl rfl ?_
  exact g_iret X KOk.n d_R_triangles_173 ⟨rfl, rfl⟩
set_option maxHeartbeats 4000000 in
set_option maxRecDepth 100000 in
theorem c_R_triangles_x1 {l : Launch} (htr : l.stackTraces = false) {δ : EX} {b : Nat → Nat} (hi : In7 b) {th wd hg : Nat} {s : SS} {w : WS} {x1 : Int32} (h : bR x1) : CTN l y_R_triangles cw_R_triangles (RM 1) δ (Br b) (rl δ b th wd hg s w) [.ref (b 0), .int x1] (some (.int 0)) (rl δ b 1 wd hg s w) := by
  refine CT.ofN (lv := [(0, .ref (b 0)), (1, .int x1)]) (Or.inl ⟨rfl, rfl⟩) (by decide) htr rfl (Nat.le_of_ble_eq_true rfl) (fun κ hl X => ?_)
  subst hl
  refine g_aload_n X 0 d_R_triangles_0 rfl rfl ?_
  refine g_iload_n X 1 d_R_triangles_1 rfl rfl ?_
  refine g_SP X KOk.n s_R_38 (c_R_isReg_x htr h) d_R_triangles_2 rfl ?_ ?_
  · exact ⟨Nat.le_of_ble_eq_true rfl, Nat.le_of_ble_eq_true rfl, Nat.le_of_ble_eq_true rfl, Nat.le_of_ble_eq_true rfl⟩
  refine g_if_ne X 12 d_R_triangles_5 (by decide) (fun q => absurd q (by decide)) (fun _ => ?_)
  refine g_iconst X (v := nI 1) d_R_triangles_8 (by decide) ?_
  refine g_goto X 25 d_R_triangles_9 (by decide) ?_
  refine p_thrown X hi d_R_triangles_25 ?_
  refine g_aload_n X 0 d_R_triangles_28 rfl rfl ?_
  refine q_thrown X d_R_triangles_29 ?_
  refine g_if_le X 37 d_R_triangles_32 (by decide) (fun q => absurd q (by decide)) (fun _ => ?_)
  refine g_iconst X (v := nI 0) d_R_triangles_35 (by decide) ?_
  exact g_iret X KOk.n d_R_triangles_36 ⟨rfl, rfl⟩
set_option maxHeartbeats 4000000 in
set_option maxRecDepth 100000 in
theorem c_R_triangles_x2 {l : Launch} (htr : l.stackTraces = false) {δ : EX} {b : Nat → Nat} (hi : In7 b) {th wd hg : Nat} {s : SS} {w : WS} {a : Nat} (ha : a < 6) (h8 : ∀ r, r < 6 → s.1 r ≤ 8 ∧ s.2.1 r ≤ 8) (hsq : ¬ s.1 a = s.2.1 a) : CTN l y_R_triangles cw_R_triangles (RM 1) δ (Br b) (rl δ b th wd hg s w) [.ref (b 0), .int (nI a)] (some (.int 0)) (rl δ b 2 wd hg s w) := by
  refine CT.ofN (lv := [(0, .ref (b 0)), (1, .int (nI a))]) (Or.inl ⟨rfl, rfl⟩) (by decide) htr rfl (Nat.le_of_ble_eq_true rfl) (fun κ hl X => ?_)
  subst hl
  refine g_aload_n X 0 d_R_triangles_0 rfl rfl ?_
  refine g_iload_n X 1 d_R_triangles_1 rfl rfl ?_
  refine g_SP X KOk.n s_R_38 (c_R_isReg htr ha) d_R_triangles_2 rfl ?_ ?_
  · exact ⟨Nat.le_of_ble_eq_true rfl, Nat.le_of_ble_eq_true rfl, Nat.le_of_ble_eq_true rfl, Nat.le_of_ble_eq_true rfl⟩
  refine g_if_ne X 12 d_R_triangles_5 (by decide) (fun _ => ?_) (fun q => absurd q (by decide))
  refine g_aload_n X 0 d_R_triangles_12 rfl rfl ?_
  refine g_iload_n X 1 d_R_triangles_13 rfl rfl ?_
  refine g_VP X KOk.n v_R_105 (q0 := 0) rfl (ci := 2) rfl (c_R_isSq_f htr ha h8 hsq) d_R_triangles_14 rfl ?_ ?_
  · exact ⟨Nat.le_of_ble_eq_true rfl, Nat.le_of_ble_eq_true rfl, Nat.le_of_ble_eq_true rfl, Nat.le_of_ble_eq_true rfl⟩
  refine g_if_ne X 24 d_R_triangles_17 (by decide) (fun q => absurd q (by decide)) (fun _ => ?_)
  refine g_iconst X (v := nI 2) d_R_triangles_20 (by decide) ?_
  refine g_goto X 25 d_R_triangles_21 (by decide) ?_
  refine p_thrown X hi d_R_triangles_25 ?_
  refine g_aload_n X 0 d_R_triangles_28 rfl rfl ?_
  refine q_thrown X d_R_triangles_29 ?_
  refine g_if_le X 37 d_R_triangles_32 (by decide) (fun q => absurd q (by decide)) (fun _ => ?_)
  refine g_iconst X (v := nI 0) d_R_triangles_35 (by decide) ?_
  exact g_iret X KOk.n d_R_triangles_36 ⟨rfl, rfl⟩
def cmj (j : Nat) (w : WS) : WS := mkS w j (lN j)
def cpj (s : SS) (a i j : Nat) (w : WS) : WS := if s.2.2.1 (64 * a + 8 * i + j) = true then (w.1, w.2.1, vp_updL (vp_updL w.2.2 i (if w.2.2 i < w.2.2 j then w.2.2 i else w.2.2 j)) j (if w.2.2 i < w.2.2 j then w.2.2 i else w.2.2 j)) else w
def cpi (s : SS) (a wd i : Nat) (w : WS) : WS := fl (cpj s a i) 0 wd w
def cpr (s : SS) (a wd : Nat) (_ : Nat) (w : WS) : WS := fl (cpi s a wd) 0 wd w
def cpS (s : SS) (a : Nat) (w : WS) : WS := fl (cpr s a (s.2.1 a)) 0 8 (fl cmj 0 (s.2.1 a) w)
set_option maxHeartbeats 4000000 in
set_option maxRecDepth 100000 in
theorem l_R_co_m {κ : KX} {δ : EX} {b : Nat → Nat} {th wd hg : Nat} {P : OC → va_W → Prop} (X : XO κ R_R b_R_components 8 (some .int) δ (RM 2) (Br b) []) (htr : (xl κ).stackTraces = false) (hi : In7 b) {s : SS} {to a : Nat} (hto : to < 6) (ha : a < 6) (h8 : wd ≤ 8) : ∀ (n i : Nat) (w : WS), i + n = wd → G κ 8 δ (Kn κ (Br b)) (Qe κ δ (Br b) P) 0 0 (rl δ b th wd hg s (fl (cmj) i n w)) [(0, .ref (b 0)), (1, .int (nI to)), (2, .int (nI a))] [] 79 → G κ 8 δ (Kn κ (Br b)) (Qe κ δ (Br b) P) 0 0 (rl δ b th wd hg s w) [(0, .ref (b 0)), (1, .int (nI to)), (2, .int (nI a)), (3, .int (nI (i)))] [] 57 := by
  intro n
  induction n with
  | zero =>
    intro i w h hx
    refine g_iload_n X 3 d_R_components_57 rfl rfl ?_
    refine g_aload_n X 0 d_R_components_58 rfl rfl ?_
    refine q_wide X d_R_components_59 ?_
    refine n_ge X 79 d_R_components_62 (by decide) (by omega) (by omega) (fun h62 => ?_) (fun h62 => ?_)
    · exact g_sb hx ⟨rfl, rfl, rfl, trivial⟩
    · exact absurd h62 (by omega)
  | succ n ih =>
    intro i w h hx
    refine g_iload_n X 3 d_R_components_57 rfl rfl ?_
    refine g_aload_n X 0 d_R_components_58 rfl rfl ?_
    refine q_wide X d_R_components_59 ?_
    refine n_ge X 79 d_R_components_62 (by decide) (by omega) (by omega) (fun h62 => ?_) (fun h62 => ?_)
    · exact absurd h62 (by omega)
    · refine g_aload_n X 0 d_R_components_65 rfl rfl ?_
      refine g_iconst X (v := nI 0) d_R_components_66 (by decide) ?_
      refine g_iload_n X 3 d_R_components_67 rfl rfl ?_
      refine g_iload_n X 3 d_R_components_68 rfl rfl ?_
      refine n_i2l X (by omega) d_R_components_69 ?_
      refine g_VN1 X v_R_75 (q0 := 0) rfl (ci := 2) rfl (c_R_make htr hi (i := 0) (by omega) (by omega)) d_R_components_70 rfl ?_ ?_
      · exact ⟨Nat.le_of_ble_eq_true rfl, Nat.le_of_ble_eq_true rfl, Nat.le_of_ble_eq_true rfl, Nat.le_of_ble_eq_true rfl⟩
      refine g_iinc X d_R_components_73 rfl (nI_1 _) (by decide) ?_
      refine g_goto X 57 d_R_components_76 (by decide) ?_
      exact g_sb (ih (i + 1) _ (by omega) (g_fl (wf := fun z => (rl δ b th wd hg s z)) (lf := fun z => [(0, .ref (b 0)), (1, .int (nI to)), (2, .int (nI a))]) (F := cmj) (by simp [cmj, mk0]) hx)) ⟨rfl, rfl, rfl, rfl, trivial⟩
set_option maxHeartbeats 4000000 in
set_option maxRecDepth 100000 in
theorem l_R_co_j {κ : KX} {δ : EX} {b : Nat → Nat} {th wd hg : Nat} {P : OC → va_W → Prop} (X : XO κ R_R b_R_components 8 (some .int) δ (RM 2) (Br b) []) (htr : (xl κ).stackTraces = false) (hi : In7 b) {s : SS} {to a : Nat} (hto : to < 6) (ha : a < 6) (h8 : wd ≤ 8) {rr ii : Nat} (hii : ii < wd) : ∀ (n i : Nat) (w : WS), i + n = wd → G κ 8 δ (Kn κ (Br b)) (Qe κ δ (Br b) P) 0 0 (rl δ b th wd hg s (fl (cpj s a ii) i n w)) [(0, .ref (b 0)), (1, .int (nI to)), (2, .int (nI a)), (3, .int (nI rr)), (4, .int (nI ii))] [] 193 → G κ 8 δ (Kn κ (Br b)) (Qe κ δ (Br b) P) 0 0 (rl δ b th wd hg s w) [(0, .ref (b 0)), (1, .int (nI to)), (2, .int (nI a)), (3, .int (nI rr)), (4, .int (nI ii)), (5, .int (nI (i)))] [] 102 := by
  intro n
  induction n with
  | zero =>
    intro i w h hx
    refine g_iload X d_R_components_102 rfl ?_
    refine g_aload_n X 0 d_R_components_104 rfl rfl ?_
    refine q_wide X d_R_components_105 ?_
    refine n_ge X 193 d_R_components_108 (by decide) (by omega) (by omega) (fun h108 => ?_) (fun h108 => ?_)
    · exact g_sb hx ⟨rfl, rfl, rfl, rfl, rfl, trivial⟩
    · exact absurd h108 (by omega)
  | succ n ih =>
    intro i w h hx
    refine g_iload X d_R_components_102 rfl ?_
    refine g_aload_n X 0 d_R_components_104 rfl rfl ?_
    refine q_wide X d_R_components_105 ?_
    refine n_ge X 193 d_R_components_108 (by decide) (by omega) (by omega) (fun h108 => ?_) (fun h108 => ?_)
    · exact absurd h108 (by omega)
    · refine g_aload_n X 0 d_R_components_111 rfl rfl ?_
      refine q_has X d_R_components_112 ?_
      refine g_bipush X (v := nI 64) d_R_components_115 (by decide) ?_
      refine g_iload_n X 2 d_R_components_117 rfl rfl ?_
      refine n_mul X d_R_components_118 ?_
      refine g_bipush X (v := nI 8) d_R_components_119 (by decide) ?_
      refine g_iload X d_R_components_121 rfl ?_
      refine n_mul X d_R_components_123 ?_
      refine n_add X d_R_components_124 ?_
      refine g_iload X d_R_components_125 rfl ?_
      refine n_add X d_R_components_127 ?_
      refine a_has X (by omega) d_R_components_128 ?_
      refine z_eq X 187 d_R_components_129 (by decide) (fun h129 => ?_) (fun h129 => ?_)
      · refine g_iinc X d_R_components_187 rfl (nI_1 _) (by decide) ?_
        refine g_goto X 102 d_R_components_190 (by decide) ?_
        exact g_sb (ih (i + 1) _ (by omega) (g_fl (wf := fun z => (rl δ b th wd hg s z)) (lf := fun z => [(0, .ref (b 0)), (1, .int (nI to)), (2, .int (nI a)), (3, .int (nI rr)), (4, .int (nI ii))]) (F := cpj s a ii) (by simp [cpj, h129]) hx)) ⟨rfl, rfl, rfl, rfl, rfl, rfl, trivial⟩
      · refine g_aload_n X 0 d_R_components_132 rfl rfl ?_
        refine q_made X d_R_components_133 ?_
        refine g_iload X d_R_components_136 rfl ?_
        refine a_made X (by omega) d_R_components_138 ?_
        refine g_aload_n X 0 d_R_components_139 rfl rfl ?_
        refine q_made X d_R_components_140 ?_
        refine g_iload X d_R_components_143 rfl ?_
        refine a_made X (by omega) d_R_components_145 ?_
        refine l_ge X 160 d_R_components_146 d_R_components_147 (by decide) (fun h147 => ?_) (fun h147 => ?_)
        · refine g_aload_n X 0 d_R_components_160 rfl rfl ?_
          refine q_made X d_R_components_161 ?_
          refine g_iload X d_R_components_164 rfl ?_
          refine a_made X (by omega) d_R_components_166 ?_
          refine g_lstore X d_R_components_167 (by decide) ?_
          refine g_aload_n X 0 d_R_components_169 rfl rfl ?_
          refine q_made X d_R_components_170 ?_
          refine g_iload X d_R_components_173 rfl ?_
          refine g_lload X d_R_components_175 rfl ?_
          refine e_made X hi (by omega) d_R_components_177 ?_
          refine g_aload_n X 0 d_R_components_178 rfl rfl ?_
          refine q_made X d_R_components_179 ?_
          refine g_iload X d_R_components_182 rfl ?_
          refine g_lload X d_R_components_184 rfl ?_
          refine e_made X hi (by omega) d_R_components_186 ?_
          refine g_iinc X d_R_components_187 rfl (nI_1 _) (by decide) ?_
          refine g_goto X 102 d_R_components_190 (by decide) ?_
          exact g_sb (ih (i + 1) _ (by omega) (g_fl (wf := fun z => (rl δ b th wd hg s z)) (lf := fun z => [(0, .ref (b 0)), (1, .int (nI to)), (2, .int (nI a)), (3, .int (nI rr)), (4, .int (nI ii))]) (F := cpj s a ii) (by simp [cpj, h129, h147]) hx)) ⟨rfl, rfl, rfl, rfl, rfl, rfl, trivial⟩
        · refine g_aload_n X 0 d_R_components_150 rfl rfl ?_
          refine q_made X d_R_components_151 ?_
          refine g_iload X d_R_components_154 rfl ?_
          refine a_made X (by omega) d_R_components_156 ?_
          refine g_goto X 167 d_R_components_157 (by decide) ?_
          refine g_lstore X d_R_components_167 (by decide) ?_
          refine g_aload_n X 0 d_R_components_169 rfl rfl ?_
          refine q_made X d_R_components_170 ?_
          refine g_iload X d_R_components_173 rfl ?_
          refine g_lload X d_R_components_175 rfl ?_
          refine e_made X hi (by omega) d_R_components_177 ?_
          refine g_aload_n X 0 d_R_components_178 rfl rfl ?_
          refine q_made X d_R_components_179 ?_
          refine g_iload X d_R_components_182 rfl ?_
          refine g_lload X d_R_components_184 rfl ?_
          refine e_made X hi (by omega) d_R_components_186 ?_
          refine g_iinc X d_R_components_187 rfl (nI_1 _) (by decide) ?_
          refine g_goto X 102 d_R_components_190 (by decide) ?_
          exact g_sb (ih (i + 1) _ (by omega) (g_fl (wf := fun z => (rl δ b th wd hg s z)) (lf := fun z => [(0, .ref (b 0)), (1, .int (nI to)), (2, .int (nI a)), (3, .int (nI rr)), (4, .int (nI ii))]) (F := cpj s a ii) (by simp [cpj, h129, h147]) hx)) ⟨rfl, rfl, rfl, rfl, rfl, rfl, trivial⟩
set_option maxHeartbeats 4000000 in
set_option maxRecDepth 100000 in
theorem l_R_co_i {κ : KX} {δ : EX} {b : Nat → Nat} {th wd hg : Nat} {P : OC → va_W → Prop} (X : XO κ R_R b_R_components 8 (some .int) δ (RM 2) (Br b) []) (htr : (xl κ).stackTraces = false) (hi : In7 b) {s : SS} {to a : Nat} (hto : to < 6) (ha : a < 6) (h8 : wd ≤ 8) {rr : Nat} : ∀ (n i : Nat) (w : WS), i + n = wd → G κ 8 δ (Kn κ (Br b)) (Qe κ δ (Br b) P) 0 0 (rl δ b th wd hg s (fl (cpi s a wd) i n w)) [(0, .ref (b 0)), (1, .int (nI to)), (2, .int (nI a)), (3, .int (nI rr))] [] 199 → G κ 8 δ (Kn κ (Br b)) (Qe κ δ (Br b) P) 0 0 (rl δ b th wd hg s w) [(0, .ref (b 0)), (1, .int (nI to)), (2, .int (nI a)), (3, .int (nI rr)), (4, .int (nI (i)))] [] 90 := by
  intro n
  induction n with
  | zero =>
    intro i w h hx
    refine g_iload X d_R_components_90 rfl ?_
    refine g_aload_n X 0 d_R_components_92 rfl rfl ?_
    refine q_wide X d_R_components_93 ?_
    refine n_ge X 199 d_R_components_96 (by decide) (by omega) (by omega) (fun h96 => ?_) (fun h96 => ?_)
    · exact g_sb hx ⟨rfl, rfl, rfl, rfl, trivial⟩
    · exact absurd h96 (by omega)
  | succ n ih =>
    intro i w h hx
    refine g_iload X d_R_components_90 rfl ?_
    refine g_aload_n X 0 d_R_components_92 rfl rfl ?_
    refine q_wide X d_R_components_93 ?_
    refine n_ge X 199 d_R_components_96 (by decide) (by omega) (by omega) (fun h96 => ?_) (fun h96 => ?_)
    · exact absurd h96 (by omega)
    · refine g_iconst X (v := nI 0) d_R_components_99 (by decide) ?_
      refine g_istore X d_R_components_100 (by decide) ?_
      refine g_sb (l_R_co_j X htr hi hto ha h8 (by omega) wd 0 w (by omega) ?_) ⟨rfl, rfl, rfl, rfl, rfl, rfl, trivial⟩
      refine g_iinc X d_R_components_193 rfl (nI_1 _) (by decide) ?_
      refine g_goto X 90 d_R_components_196 (by decide) ?_
      exact g_sb (ih (i + 1) _ (by omega) (g_fl (wf := fun z => (rl δ b th wd hg s z)) (lf := fun z => [(0, .ref (b 0)), (1, .int (nI to)), (2, .int (nI a)), (3, .int (nI rr))]) (F := cpi s a wd) (by rfl) hx)) ⟨rfl, rfl, rfl, rfl, rfl, trivial⟩
set_option maxHeartbeats 4000000 in
set_option maxRecDepth 100000 in
theorem l_R_co_r {κ : KX} {δ : EX} {b : Nat → Nat} {th wd hg : Nat} {P : OC → va_W → Prop} (X : XO κ R_R b_R_components 8 (some .int) δ (RM 2) (Br b) []) (htr : (xl κ).stackTraces = false) (hi : In7 b) {s : SS} {to a : Nat} (hto : to < 6) (ha : a < 6) (h8 : wd ≤ 8) : ∀ (n i : Nat) (w : WS), i + n = 8 → G κ 8 δ (Kn κ (Br b)) (Qe κ δ (Br b) P) 0 0 (rl δ b th wd hg s (fl (cpr s a wd) i n w)) [(0, .ref (b 0)), (1, .int (nI to)), (2, .int (nI a))] [] 205 → G κ 8 δ (Kn κ (Br b)) (Qe κ δ (Br b) P) 0 0 (rl δ b th wd hg s w) [(0, .ref (b 0)), (1, .int (nI to)), (2, .int (nI a)), (3, .int (nI (i)))] [] 81 := by
  intro n
  induction n with
  | zero =>
    intro i w h hx
    refine g_iload_n X 3 d_R_components_81 rfl rfl ?_
    refine g_bipush X (v := nI 8) d_R_components_82 (by decide) ?_
    refine n_ge X 205 d_R_components_84 (by decide) (by omega) (by omega) (fun h84 => ?_) (fun h84 => ?_)
    · exact g_sb hx ⟨rfl, rfl, rfl, trivial⟩
    · exact absurd h84 (by omega)
  | succ n ih =>
    intro i w h hx
    refine g_iload_n X 3 d_R_components_81 rfl rfl ?_
    refine g_bipush X (v := nI 8) d_R_components_82 (by decide) ?_
    refine n_ge X 205 d_R_components_84 (by decide) (by omega) (by omega) (fun h84 => ?_) (fun h84 => ?_)
    · exact absurd h84 (by omega)
    · refine g_iconst X (v := nI 0) d_R_components_87 (by decide) ?_
      refine g_istore X d_R_components_88 (by decide) ?_
      refine g_sb (l_R_co_i X htr hi hto ha h8 wd 0 w (by omega) ?_) ⟨rfl, rfl, rfl, rfl, rfl, trivial⟩
      refine g_iinc X d_R_components_199 rfl (nI_1 _) (by decide) ?_
      refine g_goto X 81 d_R_components_202 (by decide) ?_
      exact g_sb (ih (i + 1) _ (by omega) (g_fl (wf := fun z => (rl δ b th wd hg s z)) (lf := fun z => [(0, .ref (b 0)), (1, .int (nI to)), (2, .int (nI a))]) (F := cpr s a wd) (by rfl) hx)) ⟨rfl, rfl, rfl, rfl, trivial⟩
set_option maxHeartbeats 4000000 in
set_option maxRecDepth 100000 in
theorem c_R_components {l : Launch} (htr : l.stackTraces = false) {δ : EX} {b : Nat → Nat} (hi : In7 b) {th wd hg : Nat} {s : SS} {w : WS} {to a : Nat} (hto : to < 6) (ha : a < 6) (h8 : ∀ r, r < 6 → s.1 r ≤ 8 ∧ s.2.1 r ≤ 8) (hsq : s.1 a = s.2.1 a) : CTN l y_R_components cw_R_components (RM 2) δ (Br b) (rl δ b th wd hg s w) [.ref (b 0), .int (nI to), .int (nI a)] (some (.int (nI (en (fiH s (cpS s a (bgS w)) to (-1)).1 to)))) (rl δ b 0 (s.2.1 a) 1 (fiS s (cpS s a (bgS w)) (s.2.1 a) 1 to (-1)) (cpS s a (bgS w))) := by
  refine CT.ofN (lv := [(0, .ref (b 0)), (1, .int (nI to)), (2, .int (nI a))]) (Or.inl ⟨rfl, rfl⟩) (by decide) htr rfl (Nat.le_of_ble_eq_true rfl) (fun κ hl X => ?_)
  subst hl
  have q8 := h8 a ha
  refine g_aload_n X 0 d_R_components_0 rfl rfl ?_
  refine g_iload_n X 1 d_R_components_1 rfl rfl ?_
  refine g_SP X KOk.n s_R_38 (c_R_isReg htr hto) d_R_components_2 rfl ?_ ?_
  · exact ⟨Nat.le_of_ble_eq_true rfl, Nat.le_of_ble_eq_true rfl, Nat.le_of_ble_eq_true rfl, Nat.le_of_ble_eq_true rfl⟩
  refine g_if_eq X 15 d_R_components_5 (by decide) (fun q => absurd q (by decide)) (fun _ => ?_)
  refine g_iload_n X 2 d_R_components_8 rfl rfl ?_
  refine g_SP X KOk.n s_R_38 (c_R_isReg htr ha) d_R_components_9 rfl ?_ ?_
  · exact ⟨Nat.le_of_ble_eq_true rfl, Nat.le_of_ble_eq_true rfl, Nat.le_of_ble_eq_true rfl, Nat.le_of_ble_eq_true rfl⟩
  refine g_if_ne X 19 d_R_components_12 (by decide) (fun _ => ?_) (fun q => absurd q (by decide))
  refine g_aload_n X 0 d_R_components_19 rfl rfl ?_
  refine g_iload_n X 2 d_R_components_20 rfl rfl ?_
  refine g_VP X KOk.n v_R_105 (q0 := 0) rfl (ci := 2) rfl (c_R_isSq_t htr ha h8 hsq) d_R_components_21 rfl ?_ ?_
  · exact ⟨Nat.le_of_ble_eq_true rfl, Nat.le_of_ble_eq_true rfl, Nat.le_of_ble_eq_true rfl, Nat.le_of_ble_eq_true rfl⟩
  refine g_if_ne X 31 d_R_components_24 (by decide) (fun _ => ?_) (fun q => absurd q (by decide))
  refine g_iconst X (v := nI 0) d_R_components_31 (by decide) ?_
  refine p_thrown X hi d_R_components_32 ?_
  refine g_aload_n X 0 d_R_components_35 rfl rfl ?_
  refine q_thrown X d_R_components_36 ?_
  refine g_if_le X 44 d_R_components_39 (by decide) (fun _ => ?_) (fun q => absurd q (by decide))
  refine g_aload_n X 0 d_R_components_44 rfl rfl ?_
  refine g_iconst X (v := nI 1) d_R_components_45 (by decide) ?_
  refine g_aload_n X 0 d_R_components_46 rfl rfl ?_
  refine q_columns X d_R_components_47 ?_
  refine g_iload_n X 2 d_R_components_50 rfl rfl ?_
  refine a_columns X (by omega) d_R_components_51 ?_
  refine g_VN1 X v_R_82 (q0 := 0) rfl (ci := 2) rfl (c_R_begin htr hi) d_R_components_52 rfl ?_ ?_
  · exact ⟨Nat.le_of_ble_eq_true rfl, Nat.le_of_ble_eq_true rfl, Nat.le_of_ble_eq_true rfl, Nat.le_of_ble_eq_true rfl⟩
  refine g_iconst X (v := nI 0) d_R_components_55 (by decide) ?_
  refine g_istore_n X 3 d_R_components_56 rfl (by decide) ?_
  refine g_sb (l_R_co_m X htr hi hto ha q8.2 (s.2.1 a) 0 (bgS w) (by omega) ?_) ⟨rfl, rfl, rfl, rfl, trivial⟩
  refine g_iconst X (v := nI 0) d_R_components_79 (by decide) ?_
  refine g_istore_n X 3 d_R_components_80 rfl (by decide) ?_
  refine g_sb (l_R_co_r X htr hi hto ha q8.2 8 0 _ (by omega) ?_) ⟨rfl, rfl, rfl, rfl, trivial⟩
  change G κ _ δ _ _ 0 0 (rl δ b _ _ _ s (cpS s a (bgS w))) _ _ _
  refine g_aload_n X 0 d_R_components_205 rfl rfl ?_
  refine g_iload_n X 1 d_R_components_206 rfl rfl ?_
  refine g_iconst X (v := (-1)) d_R_components_207 (by decide) ?_
  refine g_VN1 X v_R_93 (q0 := 0) rfl (ci := 2) rfl (c_R_finish htr hi hto) d_R_components_208 rfl ?_ ?_
  · exact ⟨Nat.le_of_ble_eq_true rfl, Nat.le_of_ble_eq_true rfl, Nat.le_of_ble_eq_true rfl, Nat.le_of_ble_eq_true rfl⟩
  exact g_iret X KOk.n d_R_components_211 ⟨rfl, rfl⟩
set_option maxHeartbeats 4000000 in
set_option maxRecDepth 100000 in
theorem c_R_components_x1 {l : Launch} (htr : l.stackTraces = false) {δ : EX} {b : Nat → Nat} (hi : In7 b) {th wd hg : Nat} {s : SS} {w : WS} {x1 x2 : Int32} (h : bR x1 ∨ bR x2) : CTN l y_R_components cw_R_components (RM 2) δ (Br b) (rl δ b th wd hg s w) [.ref (b 0), .int x1, .int x2] (some (.int 0)) (rl δ b 1 wd hg s w) := by
  refine CT.ofN (lv := [(0, .ref (b 0)), (1, .int x1), (2, .int x2)]) (Or.inl ⟨rfl, rfl⟩) (by decide) htr rfl (Nat.le_of_ble_eq_true rfl) (fun κ hl X => ?_)
  subst hl
  refine g_aload_n X 0 d_R_components_0 rfl rfl ?_
  refine g_iload_n X 1 d_R_components_1 rfl rfl ?_
  rcases bR_or x1 with q | ⟨r1, k1, rfl⟩
  · refine g_SP X KOk.n s_R_38 (c_R_isReg_x htr q) d_R_components_2 rfl ?_ ?_
    · exact ⟨Nat.le_of_ble_eq_true rfl, Nat.le_of_ble_eq_true rfl, Nat.le_of_ble_eq_true rfl, Nat.le_of_ble_eq_true rfl⟩
    refine g_if_eq X 15 d_R_components_5 (by decide) (fun _ => ?_) (fun q => absurd q (by decide))
    refine g_iconst X (v := nI 1) d_R_components_15 (by decide) ?_
    refine g_goto X 32 d_R_components_16 (by decide) ?_
    refine p_thrown X hi d_R_components_32 ?_
    refine g_aload_n X 0 d_R_components_35 rfl rfl ?_
    refine q_thrown X d_R_components_36 ?_
    refine g_if_le X 44 d_R_components_39 (by decide) (fun q => absurd q (by decide)) (fun _ => ?_)
    refine g_iconst X (v := nI 0) d_R_components_42 (by decide) ?_
    exact g_iret X KOk.n d_R_components_43 ⟨rfl, rfl⟩
  · refine g_SP X KOk.n s_R_38 (c_R_isReg htr k1) d_R_components_2 rfl ?_ ?_
    · exact ⟨Nat.le_of_ble_eq_true rfl, Nat.le_of_ble_eq_true rfl, Nat.le_of_ble_eq_true rfl, Nat.le_of_ble_eq_true rfl⟩
    refine g_if_eq X 15 d_R_components_5 (by decide) (fun q => absurd q (by decide)) (fun _ => ?_)
    refine g_iload_n X 2 d_R_components_8 rfl rfl ?_
    rcases bR_or x2 with q | ⟨r2, k2, rfl⟩
    · refine g_SP X KOk.n s_R_38 (c_R_isReg_x htr q) d_R_components_9 rfl ?_ ?_
      · exact ⟨Nat.le_of_ble_eq_true rfl, Nat.le_of_ble_eq_true rfl, Nat.le_of_ble_eq_true rfl, Nat.le_of_ble_eq_true rfl⟩
      refine g_if_ne X 19 d_R_components_12 (by decide) (fun q => absurd q (by decide)) (fun _ => ?_)
      refine g_iconst X (v := nI 1) d_R_components_15 (by decide) ?_
      refine g_goto X 32 d_R_components_16 (by decide) ?_
      refine p_thrown X hi d_R_components_32 ?_
      refine g_aload_n X 0 d_R_components_35 rfl rfl ?_
      refine q_thrown X d_R_components_36 ?_
      refine g_if_le X 44 d_R_components_39 (by decide) (fun q => absurd q (by decide)) (fun _ => ?_)
      refine g_iconst X (v := nI 0) d_R_components_42 (by decide) ?_
      exact g_iret X KOk.n d_R_components_43 ⟨rfl, rfl⟩
    · refine g_SP X KOk.n s_R_38 (c_R_isReg htr k2) d_R_components_9 rfl ?_ ?_
      · exact ⟨Nat.le_of_ble_eq_true rfl, Nat.le_of_ble_eq_true rfl, Nat.le_of_ble_eq_true rfl, Nat.le_of_ble_eq_true rfl⟩
      refine g_if_ne X 19 d_R_components_12 (by decide) (fun _ => ?_) (fun q => absurd q (by decide))
      exact absurd h (by
        rintro (q | q)
        · exact bR_no k1 q
        · exact bR_no k2 q)
set_option maxHeartbeats 4000000 in
set_option maxRecDepth 100000 in
theorem c_R_components_x2 {l : Launch} (htr : l.stackTraces = false) {δ : EX} {b : Nat → Nat} (hi : In7 b) {th wd hg : Nat} {s : SS} {w : WS} {to a : Nat} (hto : to < 6) (ha : a < 6) (h8 : ∀ r, r < 6 → s.1 r ≤ 8 ∧ s.2.1 r ≤ 8) (hsq : ¬ s.1 a = s.2.1 a) : CTN l y_R_components cw_R_components (RM 2) δ (Br b) (rl δ b th wd hg s w) [.ref (b 0), .int (nI to), .int (nI a)] (some (.int 0)) (rl δ b 2 wd hg s w) := by
  refine CT.ofN (lv := [(0, .ref (b 0)), (1, .int (nI to)), (2, .int (nI a))]) (Or.inl ⟨rfl, rfl⟩) (by decide) htr rfl (Nat.le_of_ble_eq_true rfl) (fun κ hl X => ?_)
  subst hl
  refine g_aload_n X 0 d_R_components_0 rfl rfl ?_
  refine g_iload_n X 1 d_R_components_1 rfl rfl ?_
  refine g_SP X KOk.n s_R_38 (c_R_isReg htr hto) d_R_components_2 rfl ?_ ?_
  · exact ⟨Nat.le_of_ble_eq_true rfl, Nat.le_of_ble_eq_true rfl, Nat.le_of_ble_eq_true rfl, Nat.le_of_ble_eq_true rfl⟩
  refine g_if_eq X 15 d_R_components_5 (by decide) (fun q => absurd q (by decide)) (fun _ => ?_)
  refine g_iload_n X 2 d_R_components_8 rfl rfl ?_
  refine g_SP X KOk.n s_R_38 (c_R_isReg htr ha) d_R_components_9 rfl ?_ ?_
  · exact ⟨Nat.le_of_ble_eq_true rfl, Nat.le_of_ble_eq_true rfl, Nat.le_of_ble_eq_true rfl, Nat.le_of_ble_eq_true rfl⟩
  refine g_if_ne X 19 d_R_components_12 (by decide) (fun _ => ?_) (fun q => absurd q (by decide))
  refine g_aload_n X 0 d_R_components_19 rfl rfl ?_
  refine g_iload_n X 2 d_R_components_20 rfl rfl ?_
  refine g_VP X KOk.n v_R_105 (q0 := 0) rfl (ci := 2) rfl (c_R_isSq_f htr ha h8 hsq) d_R_components_21 rfl ?_ ?_
  · exact ⟨Nat.le_of_ble_eq_true rfl, Nat.le_of_ble_eq_true rfl, Nat.le_of_ble_eq_true rfl, Nat.le_of_ble_eq_true rfl⟩
  refine g_if_ne X 31 d_R_components_24 (by decide) (fun q => absurd q (by decide)) (fun _ => ?_)
  refine g_iconst X (v := nI 2) d_R_components_27 (by decide) ?_
  refine g_goto X 32 d_R_components_28 (by decide) ?_
  refine p_thrown X hi d_R_components_32 ?_
  refine g_aload_n X 0 d_R_components_35 rfl rfl ?_
  refine q_thrown X d_R_components_36 ?_
  refine g_if_le X 44 d_R_components_39 (by decide) (fun q => absurd q (by decide)) (fun _ => ?_)
  refine g_iconst X (v := nI 0) d_R_components_42 (by decide) ?_
  exact g_iret X KOk.n d_R_components_43 ⟨rfl, rfl⟩
end RA5
