section RA1
theorem g_fl {κ : KX} {nL : Nat} {δ : EX} {K : Heap → List Loc → Prop} {Q : State → Prop} {σ : Type} {F : Nat → σ → σ} {i n pc : Nat} {S S' : σ} {wf : σ → va_W} {lf : σ → List (Nat × Value)} {st : List Value} (e : F i S = S') (hx : G κ nL δ K Q 0 0 (wf (fl F i (n + 1) S)) (lf (fl F i (n + 1) S)) st pc) : G κ nL δ K Q 0 0 (wf (fl F (i + 1) n S')) (lf (fl F (i + 1) n S')) st pc := by
  subst e
  exact hx
theorem z_nar (f : Bool) : vp_nar .boolean (b2 f) = b2 f := by cases f <;> decide
theorem fl_s {σ : Type} {f : Nat → σ → σ} {i n : Nat} {s s' : σ} (h : f i s = s') : fl f i (n + 1) s = fl f (i + 1) n s' := by subst h; rfl
set_option maxHeartbeats 4000000 in
set_option maxRecDepth 100000 in
theorem c_R_thrown {l : Launch} (htr : l.stackTraces = false) {δ : EX} {b : Nat → Nat} {th wd hg : Nat} {s : SS} {w : WS}  : CTP l y_R_thrown cw_R_thrown (RM 0) δ (rl δ b th wd hg s w) [.ref (b 0)] (.inr (some (.int (nI th)))) := by
  refine CT.ofP (lv := [(0, .ref (b 0))]) (Or.inl ⟨rfl, rfl⟩) (by decide) htr rfl (Nat.le_of_ble_eq_true rfl) (fun κ hl X => ?_)
  subst hl
  refine g_aload_n X 0 d_R_thrown_0 rfl rfl ?_
  refine q_thrown X d_R_thrown_1 ?_
  exact g_iret X KOk.p d_R_thrown_4 ⟨rfl, rfl⟩
set_option maxHeartbeats 4000000 in
set_option maxRecDepth 100000 in
theorem c_R_isReg {l : Launch} (htr : l.stackTraces = false) {δ : EX} {ws : va_W} {r : Nat} (h : r < 6) : CTP l y_R_isRegister cw_R_isRegister (RM 0) δ ws [.int (nI r)] (.inr (some (.int (b2 true)))) := by
  refine CT.ofP (lv := [(0, .int (nI r))]) (Or.inl ⟨rfl, rfl⟩) (by decide) htr rfl (Nat.le_of_ble_eq_true rfl) (fun κ hl X => ?_)
  subst hl
  refine g_iload_n X 0 d_R_isRegister_0 rfl rfl ?_
  refine n_zl X 14 d_R_isRegister_1 (by decide) (by omega) ?_
  refine g_iload_n X 0 d_R_isRegister_4 rfl rfl ?_
  refine g_bipush X (v := nI 6) d_R_isRegister_5 (by decide) ?_
  refine n_ge X 14 d_R_isRegister_7 (by decide) (by omega) (by omega) (fun h7 => ?_) (fun h7 => ?_)
  · exact absurd h7 (by omega)
  · refine g_iconst X (v := nI 1) d_R_isRegister_10 (by decide) ?_
    refine g_goto X 15 d_R_isRegister_11 (by decide) ?_
    exact g_zret X KOk.p (by decide) d_R_isRegister_15 ⟨by rfl, rfl⟩
set_option maxHeartbeats 4000000 in
set_option maxRecDepth 100000 in
theorem c_R_isReg_x {l : Launch} (htr : l.stackTraces = false) {δ : EX} {ws : va_W} {x : Int32} (h : bR x) : CTP l y_R_isRegister cw_R_isRegister (RM 0) δ ws [.int x] (.inr (some (.int (b2 false)))) := by
  refine CT.ofP (lv := [(0, .int x)]) (Or.inl ⟨rfl, rfl⟩) (by decide) htr rfl (Nat.le_of_ble_eq_true rfl) (fun κ hl X => ?_)
  subst hl
  refine g_iload_n X 0 d_R_isRegister_0 rfl rfl ?_
  refine g_if_lt X 14 d_R_isRegister_1 (by decide) (fun h1 => ?_) (fun h1 => ?_)
  · refine g_iconst X (v := nI 0) d_R_isRegister_14 (by decide) ?_
    exact g_zret X KOk.p (by decide) d_R_isRegister_15 ⟨by rfl, rfl⟩
  · refine g_iload_n X 0 d_R_isRegister_4 rfl rfl ?_
    refine g_bipush X (v := nI 6) d_R_isRegister_5 (by decide) ?_
    refine g_icmp_ge X 14 d_R_isRegister_7 (by decide) (fun h7 => ?_) (fun h7 => ?_)
    · refine g_iconst X (v := nI 0) d_R_isRegister_14 (by decide) ?_
      exact g_zret X KOk.p (by decide) d_R_isRegister_15 ⟨by rfl, rfl⟩
    · exact absurd h (by
        rintro (q | q)
        · exact h1 q
        · exact h7 q)
theorem nI4_le {x : Int32} (h : nI 3 < x) : nI 4 ≤ x := by
  have h1 := Int32.lt_iff_toInt_lt.mp h
  apply Int32.le_iff_toInt_le.mpr
  have e3 : (nI 3).toInt = 3 := by decide
  have e4 : (nI 4).toInt = 4 := by decide
  omega
set_option maxHeartbeats 4000000 in
set_option maxRecDepth 100000 in
theorem c_R_isRing {l : Launch} (htr : l.stackTraces = false) {δ : EX} {ws : va_W} {r : Nat} (h : r < 4) : CTP l y_R_isRing cw_R_isRing (RM 0) δ ws [.int (nI r)] (.inr (some (.int (b2 true)))) := by
  refine CT.ofP (lv := [(0, .int (nI r))]) (Or.inl ⟨rfl, rfl⟩) (by decide) htr rfl (Nat.le_of_ble_eq_true rfl) (fun κ hl X => ?_)
  subst hl
  refine g_iload_n X 0 d_R_isRing_0 rfl rfl ?_
  refine n_zl X 13 d_R_isRing_1 (by decide) (by omega) ?_
  refine g_iload_n X 0 d_R_isRing_4 rfl rfl ?_
  refine g_iconst X (v := nI 4) d_R_isRing_5 (by decide) ?_
  refine n_ge X 13 d_R_isRing_6 (by decide) (by omega) (by omega) (fun h6 => ?_) (fun h6 => ?_)
  · exact absurd h6 (by omega)
  · refine g_iconst X (v := nI 1) d_R_isRing_9 (by decide) ?_
    refine g_goto X 14 d_R_isRing_10 (by decide) ?_
    exact g_zret X KOk.p (by decide) d_R_isRing_14 ⟨by rfl, rfl⟩
set_option maxHeartbeats 4000000 in
set_option maxRecDepth 100000 in
theorem c_R_isRing_x {l : Launch} (htr : l.stackTraces = false) {δ : EX} {ws : va_W} {x : Int32} (h : bH 3 x) : CTP l y_R_isRing cw_R_isRing (RM 0) δ ws [.int x] (.inr (some (.int (b2 false)))) := by
  refine CT.ofP (lv := [(0, .int x)]) (Or.inl ⟨rfl, rfl⟩) (by decide) htr rfl (Nat.le_of_ble_eq_true rfl) (fun κ hl X => ?_)
  subst hl
  refine g_iload_n X 0 d_R_isRing_0 rfl rfl ?_
  refine g_if_lt X 13 d_R_isRing_1 (by decide) (fun h1 => ?_) (fun h1 => ?_)
  · refine g_iconst X (v := nI 0) d_R_isRing_13 (by decide) ?_
    exact g_zret X KOk.p (by decide) d_R_isRing_14 ⟨by rfl, rfl⟩
  · refine g_iload_n X 0 d_R_isRing_4 rfl rfl ?_
    refine g_iconst X (v := nI 4) d_R_isRing_5 (by decide) ?_
    refine g_icmp_ge X 13 d_R_isRing_6 (by decide) (fun h6 => ?_) (fun h6 => ?_)
    · refine g_iconst X (v := nI 0) d_R_isRing_13 (by decide) ?_
      exact g_zret X KOk.p (by decide) d_R_isRing_14 ⟨by rfl, rfl⟩
    · exact absurd h (by
        rintro (q | q)
        · exact h1 q
        · exact h6 (nI4_le q))
set_option maxHeartbeats 4000000 in
set_option maxRecDepth 100000 in
theorem c_R_isValue {l : Launch} (htr : l.stackTraces = false) {δ : EX} {ws : va_W} {v : Int64} : CTP l y_R_isValue cw_R_isValue (RM 0) δ ws [.long v] (.inr (some (.int (b2 (inR v))))) := by
  refine CT.ofP (lv := [(0, .long v)]) (Or.inl ⟨rfl, rfl⟩) (by decide) htr rfl (Nat.le_of_ble_eq_true rfl) (fun κ hl X => ?_)
  subst hl
  refine g_lload_n X 0 d_R_isValue_0 rfl rfl ?_
  refine g_ldc2 X d_R_isValue_1 kq_R_34 ?_
  refine l_lt X 20 d_R_isValue_4 d_R_isValue_5 (by decide) (fun h5 => ?_) (fun h5 => ?_)
  · refine g_iconst X (v := nI 0) d_R_isValue_20 (by decide) ?_
    exact g_zret X KOk.p (by decide) d_R_isValue_21 ⟨by rw [show inR v = false from by simp only [inR]; rw [decide_eq_false (fun q => Int64.not_lt.mpr q h5)]; rfl]; rfl, rfl⟩
  · refine g_lload_n X 0 d_R_isValue_8 rfl rfl ?_
    refine g_ldc2 X d_R_isValue_9 kq_R_36 ?_
    refine l_gt X 20 d_R_isValue_12 d_R_isValue_13 (by decide) (fun h13 => ?_) (fun h13 => ?_)
    · refine g_iconst X (v := nI 0) d_R_isValue_20 (by decide) ?_
      exact g_zret X KOk.p (by decide) d_R_isValue_21 ⟨by rw [show inR v = false from by simp only [inR]; rw [decide_eq_false (p := v ≤ _) (fun q => Int64.not_lt.mpr q h13), Bool.and_false]]; rfl, rfl⟩
    · refine g_iconst X (v := nI 1) d_R_isValue_16 (by decide) ?_
      refine g_goto X 21 d_R_isValue_17 (by decide) ?_
      exact g_zret X KOk.p (by decide) d_R_isValue_21 ⟨by rw [show inR v = true from by simp only [inR]; rw [decide_eq_true (Int64.not_lt.mp h5), decide_eq_true (Int64.not_lt.mp h13)]; rfl]; rfl, rfl⟩
set_option maxHeartbeats 4000000 in
set_option maxRecDepth 100000 in
theorem c_R_isPl {l : Launch} (htr : l.stackTraces = false) {δ : EX} {b : Nat → Nat} {th wd hg : Nat} {s : SS} {w : WS} {r i j : Nat} (hr : r < 6) (hi1 : i < s.1 r) (hj1 : j < s.2.1 r) (h8 : s.1 r ≤ 8) (h9 : s.2.1 r ≤ 8) : CTP l y_R_isPlace cw_R_isPlace (RM 1) δ (rl δ b th wd hg s w) [.ref (b 0), .int (nI r), .int (nI i), .int (nI j)] (.inr (some (.int (b2 true)))) := by
  refine CT.ofP (lv := [(0, .ref (b 0)), (1, .int (nI r)), (2, .int (nI i)), (3, .int (nI j))]) (Or.inl ⟨rfl, rfl⟩) (by decide) htr rfl (Nat.le_of_ble_eq_true rfl) (fun κ hl X => ?_)
  subst hl
  refine g_iload_n X 1 d_R_isPlace_0 rfl rfl ?_
  refine g_SP X KOk.p s_R_38 (c_R_isReg htr hr) d_R_isPlace_1 rfl ?_ ?_
  · exact ⟨Nat.le_of_ble_eq_true rfl, Nat.le_of_ble_eq_true rfl, Nat.le_of_ble_eq_true rfl, Nat.le_of_ble_eq_true rfl⟩
  refine g_if_eq X 39 d_R_isPlace_4 (by decide) (fun q => absurd q (by decide)) (fun _ => ?_)
  refine g_iload_n X 2 d_R_isPlace_7 rfl rfl ?_
  refine n_zl X 39 d_R_isPlace_8 (by decide) (by omega) ?_
  refine g_iload_n X 2 d_R_isPlace_11 rfl rfl ?_
  refine g_aload_n X 0 d_R_isPlace_12 rfl rfl ?_
  refine q_rows X d_R_isPlace_13 ?_
  refine g_iload_n X 1 d_R_isPlace_16 rfl rfl ?_
  refine a_rows X (by omega) d_R_isPlace_17 ?_
  refine n_ge X 39 d_R_isPlace_18 (by decide) (by omega) (by omega) (fun h18 => ?_) (fun h18 => ?_)
  · exact absurd h18 (by omega)
  · refine g_iload_n X 3 d_R_isPlace_21 rfl rfl ?_
    refine n_zl X 39 d_R_isPlace_22 (by decide) (by omega) ?_
    refine g_iload_n X 3 d_R_isPlace_25 rfl rfl ?_
    refine g_aload_n X 0 d_R_isPlace_26 rfl rfl ?_
    refine q_columns X d_R_isPlace_27 ?_
    refine g_iload_n X 1 d_R_isPlace_30 rfl rfl ?_
    refine a_columns X (by omega) d_R_isPlace_31 ?_
    refine n_ge X 39 d_R_isPlace_32 (by decide) (by omega) (by omega) (fun h32 => ?_) (fun h32 => ?_)
    · exact absurd h32 (by omega)
    · refine g_iconst X (v := nI 1) d_R_isPlace_35 (by decide) ?_
      refine g_goto X 40 d_R_isPlace_36 (by decide) ?_
      exact g_zret X KOk.p (by decide) d_R_isPlace_40 ⟨by rfl, rfl⟩
/-- no such place -/
def bP (s : SS) (x i j : Int32) : Prop := bR x ∨ ∃ r, r < 6 ∧ x = nI r ∧ (i < 0 ∨ nI (s.1 r) ≤ i ∨ j < 0 ∨ nI (s.2.1 r) ≤ j)
set_option maxHeartbeats 4000000 in
set_option maxRecDepth 100000 in
theorem c_R_isPl_x {l : Launch} (htr : l.stackTraces = false) {δ : EX} {b : Nat → Nat} {th wd hg : Nat} {s : SS} {w : WS} {x i j : Int32} (h : bP s x i j) : CTP l y_R_isPlace cw_R_isPlace (RM 1) δ (rl δ b th wd hg s w) [.ref (b 0), .int x, .int i, .int j] (.inr (some (.int (b2 false)))) := by
  refine CT.ofP (lv := [(0, .ref (b 0)), (1, .int x), (2, .int i), (3, .int j)]) (Or.inl ⟨rfl, rfl⟩) (by decide) htr rfl (Nat.le_of_ble_eq_true rfl) (fun κ hl X => ?_)
  subst hl
  refine g_iload_n X 1 d_R_isPlace_0 rfl rfl ?_
  rcases bR_or x with q | ⟨r, h1, rfl⟩
  · refine g_SP X KOk.p s_R_38 (c_R_isReg_x htr q) d_R_isPlace_1 rfl ?_ ?_
    · exact ⟨Nat.le_of_ble_eq_true rfl, Nat.le_of_ble_eq_true rfl, Nat.le_of_ble_eq_true rfl, Nat.le_of_ble_eq_true rfl⟩
    refine g_if_eq X 39 d_R_isPlace_4 (by decide) (fun _ => ?_) (fun q => absurd q (by decide))
    refine g_iconst X (v := nI 0) d_R_isPlace_39 (by decide) ?_
    exact g_zret X KOk.p (by decide) d_R_isPlace_40 ⟨by rfl, rfl⟩
  · refine g_SP X KOk.p s_R_38 (c_R_isReg htr h1) d_R_isPlace_1 rfl ?_ ?_
    · exact ⟨Nat.le_of_ble_eq_true rfl, Nat.le_of_ble_eq_true rfl, Nat.le_of_ble_eq_true rfl, Nat.le_of_ble_eq_true rfl⟩
    refine g_if_eq X 39 d_R_isPlace_4 (by decide) (fun q => absurd q (by decide)) (fun _ => ?_)
    refine g_iload_n X 2 d_R_isPlace_7 rfl rfl ?_
    refine g_if_lt X 39 d_R_isPlace_8 (by decide) (fun h8 => ?_) (fun h8 => ?_)
    · refine g_iconst X (v := nI 0) d_R_isPlace_39 (by decide) ?_
      exact g_zret X KOk.p (by decide) d_R_isPlace_40 ⟨by rfl, rfl⟩
    · refine g_iload_n X 2 d_R_isPlace_11 rfl rfl ?_
      refine g_aload_n X 0 d_R_isPlace_12 rfl rfl ?_
      refine q_rows X d_R_isPlace_13 ?_
      refine g_iload_n X 1 d_R_isPlace_16 rfl rfl ?_
      refine a_rows X (by omega) d_R_isPlace_17 ?_
      refine g_icmp_ge X 39 d_R_isPlace_18 (by decide) (fun h18 => ?_) (fun h18 => ?_)
      · refine g_iconst X (v := nI 0) d_R_isPlace_39 (by decide) ?_
        exact g_zret X KOk.p (by decide) d_R_isPlace_40 ⟨by rfl, rfl⟩
      · refine g_iload_n X 3 d_R_isPlace_21 rfl rfl ?_
        refine g_if_lt X 39 d_R_isPlace_22 (by decide) (fun h22 => ?_) (fun h22 => ?_)
        · refine g_iconst X (v := nI 0) d_R_isPlace_39 (by decide) ?_
          exact g_zret X KOk.p (by decide) d_R_isPlace_40 ⟨by rfl, rfl⟩
        · refine g_iload_n X 3 d_R_isPlace_25 rfl rfl ?_
          refine g_aload_n X 0 d_R_isPlace_26 rfl rfl ?_
          refine q_columns X d_R_isPlace_27 ?_
          refine g_iload_n X 1 d_R_isPlace_30 rfl rfl ?_
          refine a_columns X (by omega) d_R_isPlace_31 ?_
          refine g_icmp_ge X 39 d_R_isPlace_32 (by decide) (fun h32 => ?_) (fun h32 => ?_)
          · refine g_iconst X (v := nI 0) d_R_isPlace_39 (by decide) ?_
            exact g_zret X KOk.p (by decide) d_R_isPlace_40 ⟨by rfl, rfl⟩
          · exact absurd h (by
              rintro (q | ⟨r', z1, z2, q | q | q | q⟩)
              · exact bR_no h1 q
              · exact h8 q
              · rw [← (nI_eq (by omega) (by omega)).mp z2] at q
                exact h18 q
              · exact h22 q
              · rw [← (nI_eq (by omega) (by omega)).mp z2] at q
                exact h32 q)
def clj (r p : Nat) (h : Nat → Bool) : Nat → Bool := va_up h (64 * r + p) false
def shS (s : SS) (r m n : Nat) : SS := (va_up s.1 r m, va_up s.2.1 r n, fl (clj r) 0 64 s.2.2.1, s.2.2.2)
set_option maxHeartbeats 4000000 in
set_option maxRecDepth 100000 in
theorem l_R_shape {κ : KX} {δ : EX} {b : Nat → Nat} {th wd hg : Nat} {P : OC → va_W → Prop} (X : XO κ R_R b_R_shape 5 none δ (RM 1) (Br b) []) (htr : (xl κ).stackTraces = false) (hi : In7 b) {s : SS} {w : WS} {r : Nat} (hr : r < 6) : ∀ (n i : Nat) (h0 : Nat → Bool), i + n = 64 → G κ 5 δ (Kn κ (Br b)) (Qe κ δ (Br b) P) 0 0 (rl δ b th wd hg (s.1, s.2.1, (fl (clj r) i n h0), s.2.2.2) w) [(0, .ref (b 0)), (1, .int (nI r))] [] 92 → G κ 5 δ (Kn κ (Br b)) (Qe κ δ (Br b) P) 0 0 (rl δ b th wd hg (s.1, s.2.1, h0, s.2.2.2) w) [(0, .ref (b 0)), (1, .int (nI r)), (4, .int (nI (64 * r + i)))] [] 66 := by
  intro n
  induction n with
  | zero =>
    intro i h0 h hx
    refine g_iload X d_R_shape_66 rfl ?_
    refine g_bipush X (v := nI 64) d_R_shape_68 (by decide) ?_
    refine g_iload_n X 1 d_R_shape_70 rfl rfl ?_
    refine n_mul X d_R_shape_71 ?_
    refine g_bipush X (v := nI 64) d_R_shape_72 (by decide) ?_
    refine n_add X d_R_shape_74 ?_
    refine n_ge X 92 d_R_shape_75 (by decide) (by omega) (by omega) (fun h75 => ?_) (fun h75 => ?_)
    · exact g_sb hx ⟨rfl, rfl, trivial⟩
    · exact absurd h75 (by omega)
  | succ n ih =>
    intro i h0 h hx
    refine g_iload X d_R_shape_66 rfl ?_
    refine g_bipush X (v := nI 64) d_R_shape_68 (by decide) ?_
    refine g_iload_n X 1 d_R_shape_70 rfl rfl ?_
    refine n_mul X d_R_shape_71 ?_
    refine g_bipush X (v := nI 64) d_R_shape_72 (by decide) ?_
    refine n_add X d_R_shape_74 ?_
    refine n_ge X 92 d_R_shape_75 (by decide) (by omega) (by omega) (fun h75 => ?_) (fun h75 => ?_)
    · exact absurd h75 (by omega)
    · refine g_aload_n X 0 d_R_shape_78 rfl rfl ?_
      refine q_has X d_R_shape_79 ?_
      refine g_iload X d_R_shape_82 rfl ?_
      refine g_iconst X (v := nI 0) d_R_shape_84 (by decide) ?_
      refine e_has X hi false (by decide) (by omega) d_R_shape_85 ?_
      refine g_iinc X d_R_shape_86 rfl (nI_1 _) (by decide) ?_
      refine g_goto X 66 d_R_shape_89 (by decide) ?_
      exact g_sb (ih (i + 1) _ (by omega) (g_fl (wf := fun z => (rl δ b th wd hg (s.1, s.2.1, z, s.2.2.2) w)) (lf := fun z => [(0, .ref (b 0)), (1, .int (nI r))]) (F := clj r) (by rfl) hx)) ⟨rfl, rfl, rfl, trivial⟩
set_option maxHeartbeats 4000000 in
set_option maxRecDepth 100000 in
theorem c_R_shape {l : Launch} (htr : l.stackTraces = false) {δ : EX} {b : Nat → Nat} (hi : In7 b) {th wd hg : Nat} {s : SS} {w : WS} {r m n : Nat} (hr : r < 6) (h1 : 1 ≤ m) (h2 : m ≤ 8) (h3 : 1 ≤ n) (h4 : n ≤ 8) : CTN l y_R_shape cw_R_shape (RM 1) δ (Br b) (rl δ b th wd hg s w) [.ref (b 0), .int (nI r), .int (nI m), .int (nI n)] none (rl δ b 0 wd hg (shS s r m n) w) := by
  refine CT.ofN (lv := [(0, .ref (b 0)), (1, .int (nI r)), (2, .int (nI m)), (3, .int (nI n))]) (Or.inl ⟨rfl, rfl⟩) (by decide) htr rfl (Nat.le_of_ble_eq_true rfl) (fun κ hl X => ?_)
  subst hl
  refine g_aload_n X 0 d_R_shape_0 rfl rfl ?_
  refine g_iload_n X 1 d_R_shape_1 rfl rfl ?_
  refine g_SP X KOk.n s_R_38 (c_R_isReg htr hr) d_R_shape_2 rfl ?_ ?_
  · exact ⟨Nat.le_of_ble_eq_true rfl, Nat.le_of_ble_eq_true rfl, Nat.le_of_ble_eq_true rfl, Nat.le_of_ble_eq_true rfl⟩
  refine g_if_eq X 30 d_R_shape_5 (by decide) (fun q => absurd q (by decide)) (fun _ => ?_)
  refine g_iload_n X 2 d_R_shape_8 rfl rfl ?_
  refine g_iconst X (v := nI 1) d_R_shape_9 (by decide) ?_
  refine n_lt X 30 d_R_shape_10 (by decide) (by omega) (by omega) (fun h10 => ?_) (fun h10 => ?_)
  · exact absurd h10 (by omega)
  · refine g_iload_n X 2 d_R_shape_13 rfl rfl ?_
    refine g_bipush X (v := nI 8) d_R_shape_14 (by decide) ?_
    refine n_gt X 30 d_R_shape_16 (by decide) (by omega) (by omega) (fun h16 => ?_) (fun h16 => ?_)
    · exact absurd h16 (by omega)
    · refine g_iload_n X 3 d_R_shape_19 rfl rfl ?_
      refine g_iconst X (v := nI 1) d_R_shape_20 (by decide) ?_
      refine n_lt X 30 d_R_shape_21 (by decide) (by omega) (by omega) (fun h21 => ?_) (fun h21 => ?_)
      · exact absurd h21 (by omega)
      · refine g_iload_n X 3 d_R_shape_24 rfl rfl ?_
        refine g_bipush X (v := nI 8) d_R_shape_25 (by decide) ?_
        refine n_le X 34 d_R_shape_27 (by decide) (by omega) (by omega) (fun h27 => ?_) (fun h27 => ?_)
        · refine g_iconst X (v := nI 0) d_R_shape_34 (by decide) ?_
          refine p_thrown X hi d_R_shape_35 ?_
          refine g_aload_n X 0 d_R_shape_38 rfl rfl ?_
          refine q_thrown X d_R_shape_39 ?_
          refine g_if_le X 46 d_R_shape_42 (by decide) (fun _ => ?_) (fun q => absurd q (by decide))
          refine g_aload_n X 0 d_R_shape_46 rfl rfl ?_
          refine q_rows X d_R_shape_47 ?_
          refine g_iload_n X 1 d_R_shape_50 rfl rfl ?_
          refine g_iload_n X 2 d_R_shape_51 rfl rfl ?_
          refine e_rows X hi (by omega) d_R_shape_52 ?_
          refine g_aload_n X 0 d_R_shape_53 rfl rfl ?_
          refine q_columns X d_R_shape_54 ?_
          refine g_iload_n X 1 d_R_shape_57 rfl rfl ?_
          refine g_iload_n X 3 d_R_shape_58 rfl rfl ?_
          refine e_columns X hi (by omega) d_R_shape_59 ?_
          refine g_bipush X (v := nI 64) d_R_shape_60 (by decide) ?_
          refine g_iload_n X 1 d_R_shape_62 rfl rfl ?_
          refine n_mul X d_R_shape_63 ?_
          refine g_istore X d_R_shape_64 (by decide) ?_
          refine g_sb (l_R_shape X htr hi (s := (va_up s.1 r m, va_up s.2.1 r n, s.2.2)) hr 64 0 _ (by omega) ?_) ⟨rfl, rfl, rfl, trivial⟩
          exact g_vret X KOk.n d_R_shape_92 ⟨rfl, rfl⟩
        · exact absurd h27 (by omega)
set_option maxHeartbeats 4000000 in
set_option maxRecDepth 100000 in
theorem c_R_shape_x {l : Launch} (htr : l.stackTraces = false) {δ : EX} {b : Nat → Nat} (hi : In7 b) {th wd hg : Nat} {s : SS} {w : WS} {x1 x2 x3 : Int32} (h : bR x1 ∨ bD x2 ∨ bD x3) : CTN l y_R_shape cw_R_shape (RM 1) δ (Br b) (rl δ b th wd hg s w) [.ref (b 0), .int x1, .int x2, .int x3] none (rl δ b 1 wd hg s w) := by
  refine CT.ofN (lv := [(0, .ref (b 0)), (1, .int x1), (2, .int x2), (3, .int x3)]) (Or.inl ⟨rfl, rfl⟩) (by decide) htr rfl (Nat.le_of_ble_eq_true rfl) (fun κ hl X => ?_)
  subst hl
  refine g_aload_n X 0 d_R_shape_0 rfl rfl ?_
  refine g_iload_n X 1 d_R_shape_1 rfl rfl ?_
  rcases bR_or x1 with q | ⟨r, h1, rfl⟩
  · refine g_SP X KOk.n s_R_38 (c_R_isReg_x htr q) d_R_shape_2 rfl ?_ ?_
    · exact ⟨Nat.le_of_ble_eq_true rfl, Nat.le_of_ble_eq_true rfl, Nat.le_of_ble_eq_true rfl, Nat.le_of_ble_eq_true rfl⟩
    refine g_if_eq X 30 d_R_shape_5 (by decide) (fun _ => ?_) (fun q => absurd q (by decide))
    refine g_iconst X (v := nI 1) d_R_shape_30 (by decide) ?_
    refine g_goto X 35 d_R_shape_31 (by decide) ?_
    refine p_thrown X hi d_R_shape_35 ?_
    refine g_aload_n X 0 d_R_shape_38 rfl rfl ?_
    refine q_thrown X d_R_shape_39 ?_
    refine g_if_le X 46 d_R_shape_42 (by decide) (fun q => absurd q (by decide)) (fun _ => ?_)
    exact g_vret X KOk.n d_R_shape_45 ⟨rfl, rfl⟩
  · refine g_SP X KOk.n s_R_38 (c_R_isReg htr h1) d_R_shape_2 rfl ?_ ?_
    · exact ⟨Nat.le_of_ble_eq_true rfl, Nat.le_of_ble_eq_true rfl, Nat.le_of_ble_eq_true rfl, Nat.le_of_ble_eq_true rfl⟩
    refine g_if_eq X 30 d_R_shape_5 (by decide) (fun q => absurd q (by decide)) (fun _ => ?_)
    refine g_iload_n X 2 d_R_shape_8 rfl rfl ?_
    refine g_iconst X (v := nI 1) d_R_shape_9 (by decide) ?_
    refine g_icmp_lt X 30 d_R_shape_10 (by decide) (fun h10 => ?_) (fun h10 => ?_)
    · refine g_iconst X (v := nI 1) d_R_shape_30 (by decide) ?_
      refine g_goto X 35 d_R_shape_31 (by decide) ?_
      refine p_thrown X hi d_R_shape_35 ?_
      refine g_aload_n X 0 d_R_shape_38 rfl rfl ?_
      refine q_thrown X d_R_shape_39 ?_
      refine g_if_le X 46 d_R_shape_42 (by decide) (fun q => absurd q (by decide)) (fun _ => ?_)
      exact g_vret X KOk.n d_R_shape_45 ⟨rfl, rfl⟩
    · refine g_iload_n X 2 d_R_shape_13 rfl rfl ?_
      refine g_bipush X (v := nI 8) d_R_shape_14 (by decide) ?_
      refine g_icmp_gt X 30 d_R_shape_16 (by decide) (fun h16 => ?_) (fun h16 => ?_)
      · refine g_iconst X (v := nI 1) d_R_shape_30 (by decide) ?_
        refine g_goto X 35 d_R_shape_31 (by decide) ?_
        refine p_thrown X hi d_R_shape_35 ?_
        refine g_aload_n X 0 d_R_shape_38 rfl rfl ?_
        refine q_thrown X d_R_shape_39 ?_
        refine g_if_le X 46 d_R_shape_42 (by decide) (fun q => absurd q (by decide)) (fun _ => ?_)
        exact g_vret X KOk.n d_R_shape_45 ⟨rfl, rfl⟩
      · refine g_iload_n X 3 d_R_shape_19 rfl rfl ?_
        refine g_iconst X (v := nI 1) d_R_shape_20 (by decide) ?_
        refine g_icmp_lt X 30 d_R_shape_21 (by decide) (fun h21 => ?_) (fun h21 => ?_)
        · refine g_iconst X (v := nI 1) d_R_shape_30 (by decide) ?_
          refine g_goto X 35 d_R_shape_31 (by decide) ?_
          refine p_thrown X hi d_R_shape_35 ?_
          refine g_aload_n X 0 d_R_shape_38 rfl rfl ?_
          refine q_thrown X d_R_shape_39 ?_
          refine g_if_le X 46 d_R_shape_42 (by decide) (fun q => absurd q (by decide)) (fun _ => ?_)
          exact g_vret X KOk.n d_R_shape_45 ⟨rfl, rfl⟩
        · refine g_iload_n X 3 d_R_shape_24 rfl rfl ?_
          refine g_bipush X (v := nI 8) d_R_shape_25 (by decide) ?_
          refine g_icmp_le X 34 d_R_shape_27 (by decide) (fun h27 => ?_) (fun h27 => ?_)
          · exact absurd h (by
              rintro (q | (q | q) | (q | q))
              · exact bR_no h1 q
              · exact h10 q
              · exact h16 q
              · exact h21 q
              · exact Int32.not_lt.mpr h27 q)
          · refine g_iconst X (v := nI 1) d_R_shape_30 (by decide) ?_
            refine g_goto X 35 d_R_shape_31 (by decide) ?_
            refine p_thrown X hi d_R_shape_35 ?_
            refine g_aload_n X 0 d_R_shape_38 rfl rfl ?_
            refine q_thrown X d_R_shape_39 ?_
            refine g_if_le X 46 d_R_shape_42 (by decide) (fun q => absurd q (by decide)) (fun _ => ?_)
            exact g_vret X KOk.n d_R_shape_45 ⟨rfl, rfl⟩
set_option maxHeartbeats 4000000 in
set_option maxRecDepth 100000 in
theorem c_R_put {l : Launch} (htr : l.stackTraces = false) {δ : EX} {b : Nat → Nat} (hi : In7 b) {th wd hg : Nat} {s : SS} {w : WS} {r i j : Nat} (hr : r < 6) (hi1 : i < s.1 r) (hj1 : j < s.2.1 r) (h8 : s.1 r ≤ 8) (h9 : s.2.1 r ≤ 8) {v : Int64} (hv : inR v = true) : CTN l y_R_put cw_R_put (RM 2) δ (Br b) (rl δ b th wd hg s w) [.ref (b 0), .int (nI r), .int (nI i), .int (nI j), .long v] none (rl δ b 0 wd hg (s.1, s.2.1, va_up s.2.2.1 (64 * r + 8 * i + j) true, vp_updL s.2.2.2 (64 * r + 8 * i + j) v) w) := by
  refine CT.ofN (lv := [(0, .ref (b 0)), (1, .int (nI r)), (2, .int (nI i)), (3, .int (nI j)), (4, .long v)]) (Or.inl ⟨rfl, rfl⟩) (by decide) htr rfl (Nat.le_of_ble_eq_true rfl) (fun κ hl X => ?_)
  subst hl
  refine g_aload_n X 0 d_R_put_0 rfl rfl ?_
  refine g_aload_n X 0 d_R_put_1 rfl rfl ?_
  refine g_iload_n X 1 d_R_put_2 rfl rfl ?_
  refine g_iload_n X 2 d_R_put_3 rfl rfl ?_
  refine g_iload_n X 3 d_R_put_4 rfl rfl ?_
  refine g_VP X KOk.n v_R_42 (q0 := 0) rfl (ci := 2) rfl (c_R_isPl htr hr hi1 hj1 h8 h9) d_R_put_5 rfl ?_ ?_
  · exact ⟨Nat.le_of_ble_eq_true rfl, Nat.le_of_ble_eq_true rfl, Nat.le_of_ble_eq_true rfl, Nat.le_of_ble_eq_true rfl⟩
  refine g_if_eq X 19 d_R_put_8 (by decide) (fun q => absurd q (by decide)) (fun _ => ?_)
  refine g_lload X d_R_put_11 rfl ?_
  refine g_SP X KOk.n s_R_46 (c_R_isValue htr) d_R_put_13 rfl ?_ ?_
  · exact ⟨Nat.le_of_ble_eq_true rfl, Nat.le_of_ble_eq_true rfl, Nat.le_of_ble_eq_true rfl, Nat.le_of_ble_eq_true rfl⟩
  refine z_ne X 23 d_R_put_16 (by decide) (fun h16 => ?_) (fun h16 => ?_)
  · refine g_iconst X (v := nI 0) d_R_put_23 (by decide) ?_
    refine p_thrown X hi d_R_put_24 ?_
    refine g_aload_n X 0 d_R_put_27 rfl rfl ?_
    refine q_thrown X d_R_put_28 ?_
    refine g_if_le X 35 d_R_put_31 (by decide) (fun _ => ?_) (fun q => absurd q (by decide))
    refine g_aload_n X 0 d_R_put_35 rfl rfl ?_
    refine q_has X d_R_put_36 ?_
    refine g_bipush X (v := nI 64) d_R_put_39 (by decide) ?_
    refine g_iload_n X 1 d_R_put_41 rfl rfl ?_
    refine n_mul X d_R_put_42 ?_
    refine g_bipush X (v := nI 8) d_R_put_43 (by decide) ?_
    refine g_iload_n X 2 d_R_put_45 rfl rfl ?_
    refine n_mul X d_R_put_46 ?_
    refine n_add X d_R_put_47 ?_
    refine g_iload_n X 3 d_R_put_48 rfl rfl ?_
    refine n_add X d_R_put_49 ?_
    refine g_iconst X (v := nI 1) d_R_put_50 (by decide) ?_
    refine e_has X hi true (by decide) (by omega) d_R_put_51 ?_
    refine g_aload_n X 0 d_R_put_52 rfl rfl ?_
    refine q_value X d_R_put_53 ?_
    refine g_bipush X (v := nI 64) d_R_put_56 (by decide) ?_
    refine g_iload_n X 1 d_R_put_58 rfl rfl ?_
    refine n_mul X d_R_put_59 ?_
    refine g_bipush X (v := nI 8) d_R_put_60 (by decide) ?_
    refine g_iload_n X 2 d_R_put_62 rfl rfl ?_
    refine n_mul X d_R_put_63 ?_
    refine n_add X d_R_put_64 ?_
    refine g_iload_n X 3 d_R_put_65 rfl rfl ?_
    refine n_add X d_R_put_66 ?_
    refine g_lload X d_R_put_67 rfl ?_
    refine e_value X hi (by omega) d_R_put_69 ?_
    exact g_vret X KOk.n d_R_put_70 ⟨rfl, rfl⟩
  · exact absurd (hv.symm.trans h16) (by decide)
theorem bP_no {s : SS} {x i j : Int32} (h8 : ∀ r, r < 6 → s.1 r ≤ 8 ∧ s.2.1 r ≤ 8) (h : ¬ bP s x i j) : ∃ r i' j' : Nat, r < 6 ∧ i' < s.1 r ∧ j' < s.2.1 r ∧ x = nI r ∧ i = nI i' ∧ j = nI j' := by
  rcases bR_or x with q | ⟨r, h1, rfl⟩
  · exact absurd (Or.inl q) h
  have k := h8 r h1
  have a1 : ¬ i < 0 := fun q => h (Or.inr ⟨r, h1, rfl, Or.inl q⟩)
  have a2 : ¬ j < 0 := fun q => h (Or.inr ⟨r, h1, rfl, Or.inr (Or.inr (Or.inl q))⟩)
  obtain ⟨i', b1, rfl⟩ := nI_of a1
  obtain ⟨j', b3, rfl⟩ := nI_of a2
  refine ⟨r, i', j', h1, ?_, ?_, rfl, rfl, rfl⟩
  · exact Nat.not_le.mp (fun q => h (Or.inr ⟨r, h1, rfl, Or.inr (Or.inl (nI_le q b1))⟩))
  · exact Nat.not_le.mp (fun q => h (Or.inr ⟨r, h1, rfl, Or.inr (Or.inr (Or.inr (nI_le q b3)))⟩))
theorem c_R_isPl_g {l : Launch} (htr : l.stackTraces = false) {δ : EX} {b : Nat → Nat} {th wd hg : Nat} {s : SS} {w : WS} (h8 : ∀ r, r < 6 → s.1 r ≤ 8 ∧ s.2.1 r ≤ 8) {x i j : Int32} (h : ¬ bP s x i j) : CTP l y_R_isPlace cw_R_isPlace (RM 1) δ (rl δ b th wd hg s w) [.ref (b 0), .int x, .int i, .int j] (.inr (some (.int (b2 true)))) := by
  obtain ⟨r, i, j, k1, k2, k3, rfl, rfl, rfl⟩ := bP_no h8 h
  exact c_R_isPl htr k1 k2 k3 (h8 r k1).1 (h8 r k1).2
set_option maxHeartbeats 4000000 in
set_option maxRecDepth 100000 in
theorem c_R_put_x {l : Launch} (htr : l.stackTraces = false) {δ : EX} {b : Nat → Nat} (hi : In7 b) {th wd hg : Nat} {s : SS} {w : WS} (h8 : ∀ r, r < 6 → s.1 r ≤ 8 ∧ s.2.1 r ≤ 8) {x1 x2 x3 : Int32} {v : Int64} (h : bP s x1 x2 x3 ∨ inR v = false) : CTN l y_R_put cw_R_put (RM 2) δ (Br b) (rl δ b th wd hg s w) [.ref (b 0), .int x1, .int x2, .int x3, .long v] none (rl δ b 1 wd hg s w) := by
  refine CT.ofN (lv := [(0, .ref (b 0)), (1, .int x1), (2, .int x2), (3, .int x3), (4, .long v)]) (Or.inl ⟨rfl, rfl⟩) (by decide) htr rfl (Nat.le_of_ble_eq_true rfl) (fun κ hl X => ?_)
  subst hl
  refine g_aload_n X 0 d_R_put_0 rfl rfl ?_
  refine g_aload_n X 0 d_R_put_1 rfl rfl ?_
  refine g_iload_n X 1 d_R_put_2 rfl rfl ?_
  refine g_iload_n X 2 d_R_put_3 rfl rfl ?_
  refine g_iload_n X 3 d_R_put_4 rfl rfl ?_
  by_cases hP : bP s x1 x2 x3
  · refine g_VP X KOk.n v_R_42 (q0 := 0) rfl (ci := 2) rfl (c_R_isPl_x htr hP) d_R_put_5 rfl ?_ ?_
    · exact ⟨Nat.le_of_ble_eq_true rfl, Nat.le_of_ble_eq_true rfl, Nat.le_of_ble_eq_true rfl, Nat.le_of_ble_eq_true rfl⟩
    refine g_if_eq X 19 d_R_put_8 (by decide) (fun _ => ?_) (fun q => absurd q (by decide))
    refine g_iconst X (v := nI 1) d_R_put_19 (by decide) ?_
    refine g_goto X 24 d_R_put_20 (by decide) ?_
    refine p_thrown X hi d_R_put_24 ?_
    refine g_aload_n X 0 d_R_put_27 rfl rfl ?_
    refine q_thrown X d_R_put_28 ?_
    refine g_if_le X 35 d_R_put_31 (by decide) (fun q => absurd q (by decide)) (fun _ => ?_)
    exact g_vret X KOk.n d_R_put_34 ⟨rfl, rfl⟩
  · refine g_VP X KOk.n v_R_42 (q0 := 0) rfl (ci := 2) rfl (c_R_isPl_g htr h8 hP) d_R_put_5 rfl ?_ ?_
    · exact ⟨Nat.le_of_ble_eq_true rfl, Nat.le_of_ble_eq_true rfl, Nat.le_of_ble_eq_true rfl, Nat.le_of_ble_eq_true rfl⟩
    refine g_if_eq X 19 d_R_put_8 (by decide) (fun q => absurd q (by decide)) (fun _ => ?_)
    refine g_lload X d_R_put_11 rfl ?_
    refine g_SP X KOk.n s_R_46 (c_R_isValue htr) d_R_put_13 rfl ?_ ?_
    · exact ⟨Nat.le_of_ble_eq_true rfl, Nat.le_of_ble_eq_true rfl, Nat.le_of_ble_eq_true rfl, Nat.le_of_ble_eq_true rfl⟩
    refine z_ne X 23 d_R_put_16 (by decide) (fun h16 => ?_) (fun h16 => ?_)
    · exact absurd h (by
        rintro (q | q)
        · exact hP q
        · exact absurd (q.symm.trans h16) (by decide))
    · refine g_iconst X (v := nI 1) d_R_put_19 (by decide) ?_
      refine g_goto X 24 d_R_put_20 (by decide) ?_
      refine p_thrown X hi d_R_put_24 ?_
      refine g_aload_n X 0 d_R_put_27 rfl rfl ?_
      refine q_thrown X d_R_put_28 ?_
      refine g_if_le X 35 d_R_put_31 (by decide) (fun q => absurd q (by decide)) (fun _ => ?_)
      exact g_vret X KOk.n d_R_put_34 ⟨rfl, rfl⟩
set_option maxHeartbeats 4000000 in
set_option maxRecDepth 100000 in
theorem c_R_drop {l : Launch} (htr : l.stackTraces = false) {δ : EX} {b : Nat → Nat} (hi : In7 b) {th wd hg : Nat} {s : SS} {w : WS} {r i j : Nat} (hr : r < 6) (hi1 : i < s.1 r) (hj1 : j < s.2.1 r) (h8 : s.1 r ≤ 8) (h9 : s.2.1 r ≤ 8) : CTN l y_R_drop cw_R_drop (RM 2) δ (Br b) (rl δ b th wd hg s w) [.ref (b 0), .int (nI r), .int (nI i), .int (nI j)] (some (.int (b2 (s.2.2.1 (64 * r + 8 * i + j))))) (rl δ b 0 wd hg (s.1, s.2.1, va_up s.2.2.1 (64 * r + 8 * i + j) false, s.2.2.2) w) := by
  refine CT.ofN (lv := [(0, .ref (b 0)), (1, .int (nI r)), (2, .int (nI i)), (3, .int (nI j))]) (Or.inl ⟨rfl, rfl⟩) (by decide) htr rfl (Nat.le_of_ble_eq_true rfl) (fun κ hl X => ?_)
  subst hl
  refine g_aload_n X 0 d_R_drop_0 rfl rfl ?_
  refine g_aload_n X 0 d_R_drop_1 rfl rfl ?_
  refine g_iload_n X 1 d_R_drop_2 rfl rfl ?_
  refine g_iload_n X 2 d_R_drop_3 rfl rfl ?_
  refine g_iload_n X 3 d_R_drop_4 rfl rfl ?_
  refine g_VP X KOk.n v_R_42 (q0 := 0) rfl (ci := 2) rfl (c_R_isPl htr hr hi1 hj1 h8 h9) d_R_drop_5 rfl ?_ ?_
  · exact ⟨Nat.le_of_ble_eq_true rfl, Nat.le_of_ble_eq_true rfl, Nat.le_of_ble_eq_true rfl, Nat.le_of_ble_eq_true rfl⟩
  refine g_if_eq X 15 d_R_drop_8 (by decide) (fun q => absurd q (by decide)) (fun _ => ?_)
  refine g_iconst X (v := nI 0) d_R_drop_11 (by decide) ?_
  refine g_goto X 16 d_R_drop_12 (by decide) ?_
  refine p_thrown X hi d_R_drop_16 ?_
  refine g_aload_n X 0 d_R_drop_19 rfl rfl ?_
  refine q_thrown X d_R_drop_20 ?_
  refine g_if_le X 28 d_R_drop_23 (by decide) (fun _ => ?_) (fun q => absurd q (by decide))
  refine g_aload_n X 0 d_R_drop_28 rfl rfl ?_
  refine q_has X d_R_drop_29 ?_
  refine g_bipush X (v := nI 64) d_R_drop_32 (by decide) ?_
  refine g_iload_n X 1 d_R_drop_34 rfl rfl ?_
  refine n_mul X d_R_drop_35 ?_
  refine g_bipush X (v := nI 8) d_R_drop_36 (by decide) ?_
  refine g_iload_n X 2 d_R_drop_38 rfl rfl ?_
  refine n_mul X d_R_drop_39 ?_
  refine n_add X d_R_drop_40 ?_
  refine g_iload_n X 3 d_R_drop_41 rfl rfl ?_
  refine n_add X d_R_drop_42 ?_
  refine a_has X (by omega) d_R_drop_43 ?_
  refine g_istore X d_R_drop_44 (by decide) ?_
  refine g_aload_n X 0 d_R_drop_46 rfl rfl ?_
  refine q_has X d_R_drop_47 ?_
  refine g_bipush X (v := nI 64) d_R_drop_50 (by decide) ?_
  refine g_iload_n X 1 d_R_drop_52 rfl rfl ?_
  refine n_mul X d_R_drop_53 ?_
  refine g_bipush X (v := nI 8) d_R_drop_54 (by decide) ?_
  refine g_iload_n X 2 d_R_drop_56 rfl rfl ?_
  refine n_mul X d_R_drop_57 ?_
  refine n_add X d_R_drop_58 ?_
  refine g_iload_n X 3 d_R_drop_59 rfl rfl ?_
  refine n_add X d_R_drop_60 ?_
  refine g_iconst X (v := nI 0) d_R_drop_61 (by decide) ?_
  refine e_has X hi false (by decide) (by omega) d_R_drop_62 ?_
  refine g_iload X d_R_drop_63 rfl ?_
  exact g_zret X KOk.n (b2_nar _) d_R_drop_65 ⟨rfl, rfl⟩
set_option maxHeartbeats 4000000 in
set_option maxRecDepth 100000 in
theorem c_R_drop_x {l : Launch} (htr : l.stackTraces = false) {δ : EX} {b : Nat → Nat} (hi : In7 b) {th wd hg : Nat} {s : SS} {w : WS} {x1 x2 x3 : Int32} (h : bP s x1 x2 x3) : CTN l y_R_drop cw_R_drop (RM 2) δ (Br b) (rl δ b th wd hg s w) [.ref (b 0), .int x1, .int x2, .int x3] (some (.int 0)) (rl δ b 1 wd hg s w) := by
  refine CT.ofN (lv := [(0, .ref (b 0)), (1, .int x1), (2, .int x2), (3, .int x3)]) (Or.inl ⟨rfl, rfl⟩) (by decide) htr rfl (Nat.le_of_ble_eq_true rfl) (fun κ hl X => ?_)
  subst hl
  refine g_aload_n X 0 d_R_drop_0 rfl rfl ?_
  refine g_aload_n X 0 d_R_drop_1 rfl rfl ?_
  refine g_iload_n X 1 d_R_drop_2 rfl rfl ?_
  refine g_iload_n X 2 d_R_drop_3 rfl rfl ?_
  refine g_iload_n X 3 d_R_drop_4 rfl rfl ?_
  refine g_VP X KOk.n v_R_42 (q0 := 0) rfl (ci := 2) rfl (c_R_isPl_x htr h) d_R_drop_5 rfl ?_ ?_
  · exact ⟨Nat.le_of_ble_eq_true rfl, Nat.le_of_ble_eq_true rfl, Nat.le_of_ble_eq_true rfl, Nat.le_of_ble_eq_true rfl⟩
  refine g_if_eq X 15 d_R_drop_8 (by decide) (fun _ => ?_) (fun q => absurd q (by decide))
  refine g_iconst X (v := nI 1) d_R_drop_15 (by decide) ?_
  refine p_thrown X hi d_R_drop_16 ?_
  refine g_aload_n X 0 d_R_drop_19 rfl rfl ?_
  refine q_thrown X d_R_drop_20 ?_
  refine g_if_le X 28 d_R_drop_23 (by decide) (fun q => absurd q (by decide)) (fun _ => ?_)
  refine g_iconst X (v := nI 0) d_R_drop_26 (by decide) ?_
  exact g_zret X KOk.n (by decide) d_R_drop_27 ⟨rfl, rfl⟩
set_option maxHeartbeats 4000000 in
set_option maxRecDepth 100000 in
theorem c_R_at {l : Launch} (htr : l.stackTraces = false) {δ : EX} {b : Nat → Nat} (hi : In7 b) {th wd hg : Nat} {s : SS} {w : WS} {r i j : Nat} (hr : r < 6) (hi1 : i < s.1 r) (hj1 : j < s.2.1 r) (h8 : s.1 r ≤ 8) (h9 : s.2.1 r ≤ 8) (hh : s.2.2.1 (64 * r + 8 * i + j) = true) : CTN l y_R_at cw_R_at (RM 2) δ (Br b) (rl δ b th wd hg s w) [.ref (b 0), .int (nI r), .int (nI i), .int (nI j)] (some (.long (s.2.2.2 (64 * r + 8 * i + j)))) (rl δ b 0 wd hg s w) := by
  refine CT.ofN (lv := [(0, .ref (b 0)), (1, .int (nI r)), (2, .int (nI i)), (3, .int (nI j))]) (Or.inl ⟨rfl, rfl⟩) (by decide) htr rfl (Nat.le_of_ble_eq_true rfl) (fun κ hl X => ?_)
  subst hl
  refine g_aload_n X 0 d_R_at_0 rfl rfl ?_
  refine g_aload_n X 0 d_R_at_1 rfl rfl ?_
  refine g_iload_n X 1 d_R_at_2 rfl rfl ?_
  refine g_iload_n X 2 d_R_at_3 rfl rfl ?_
  refine g_iload_n X 3 d_R_at_4 rfl rfl ?_
  refine g_VP X KOk.n v_R_42 (q0 := 0) rfl (ci := 2) rfl (c_R_isPl htr hr hi1 hj1 h8 h9) d_R_at_5 rfl ?_ ?_
  · exact ⟨Nat.le_of_ble_eq_true rfl, Nat.le_of_ble_eq_true rfl, Nat.le_of_ble_eq_true rfl, Nat.le_of_ble_eq_true rfl⟩
  refine g_if_ne X 15 d_R_at_8 (by decide) (fun _ => ?_) (fun q => absurd q (by decide))
  refine g_aload_n X 0 d_R_at_15 rfl rfl ?_
  refine q_has X d_R_at_16 ?_
  refine g_bipush X (v := nI 64) d_R_at_19 (by decide) ?_
  refine g_iload_n X 1 d_R_at_21 rfl rfl ?_
  refine n_mul X d_R_at_22 ?_
  refine g_bipush X (v := nI 8) d_R_at_23 (by decide) ?_
  refine g_iload_n X 2 d_R_at_25 rfl rfl ?_
  refine n_mul X d_R_at_26 ?_
  refine n_add X d_R_at_27 ?_
  refine g_iload_n X 3 d_R_at_28 rfl rfl ?_
  refine n_add X d_R_at_29 ?_
  refine a_has X (by omega) d_R_at_30 ?_
  refine z_ne X 38 d_R_at_31 (by decide) (fun h31 => ?_) (fun h31 => ?_)
  · refine g_iconst X (v := nI 0) d_R_at_38 (by decide) ?_
    refine p_thrown X hi d_R_at_39 ?_
    refine g_aload_n X 0 d_R_at_42 rfl rfl ?_
    refine q_thrown X d_R_at_43 ?_
    refine g_if_le X 53 d_R_at_46 (by decide) (fun _ => ?_) (fun q => absurd q (by decide))
    refine g_aload_n X 0 d_R_at_53 rfl rfl ?_
    refine q_value X d_R_at_54 ?_
    refine g_bipush X (v := nI 64) d_R_at_57 (by decide) ?_
    refine g_iload_n X 1 d_R_at_59 rfl rfl ?_
    refine n_mul X d_R_at_60 ?_
    refine g_bipush X (v := nI 8) d_R_at_61 (by decide) ?_
    refine g_iload_n X 2 d_R_at_63 rfl rfl ?_
    refine n_mul X d_R_at_64 ?_
    refine n_add X d_R_at_65 ?_
    refine g_iload_n X 3 d_R_at_66 rfl rfl ?_
    refine n_add X d_R_at_67 ?_
    refine a_value X (by omega) d_R_at_68 ?_
    exact g_lret X KOk.n d_R_at_69 ⟨rfl, rfl⟩
  · exact absurd (hh.symm.trans h31) (by decide)
set_option maxHeartbeats 4000000 in
set_option maxRecDepth 100000 in
theorem c_R_at_x2 {l : Launch} (htr : l.stackTraces = false) {δ : EX} {b : Nat → Nat} (hi : In7 b) {th wd hg : Nat} {s : SS} {w : WS} {r i j : Nat} (hr : r < 6) (hi1 : i < s.1 r) (hj1 : j < s.2.1 r) (h8 : s.1 r ≤ 8) (h9 : s.2.1 r ≤ 8) (hh : s.2.2.1 (64 * r + 8 * i + j) = false) : CTN l y_R_at cw_R_at (RM 2) δ (Br b) (rl δ b th wd hg s w) [.ref (b 0), .int (nI r), .int (nI i), .int (nI j)] (some (.long 0)) (rl δ b 2 wd hg s w) := by
  refine CT.ofN (lv := [(0, .ref (b 0)), (1, .int (nI r)), (2, .int (nI i)), (3, .int (nI j))]) (Or.inl ⟨rfl, rfl⟩) (by decide) htr rfl (Nat.le_of_ble_eq_true rfl) (fun κ hl X => ?_)
  subst hl
  refine g_aload_n X 0 d_R_at_0 rfl rfl ?_
  refine g_aload_n X 0 d_R_at_1 rfl rfl ?_
  refine g_iload_n X 1 d_R_at_2 rfl rfl ?_
  refine g_iload_n X 2 d_R_at_3 rfl rfl ?_
  refine g_iload_n X 3 d_R_at_4 rfl rfl ?_
  refine g_VP X KOk.n v_R_42 (q0 := 0) rfl (ci := 2) rfl (c_R_isPl htr hr hi1 hj1 h8 h9) d_R_at_5 rfl ?_ ?_
  · exact ⟨Nat.le_of_ble_eq_true rfl, Nat.le_of_ble_eq_true rfl, Nat.le_of_ble_eq_true rfl, Nat.le_of_ble_eq_true rfl⟩
  refine g_if_ne X 15 d_R_at_8 (by decide) (fun _ => ?_) (fun q => absurd q (by decide))
  refine g_aload_n X 0 d_R_at_15 rfl rfl ?_
  refine q_has X d_R_at_16 ?_
  refine g_bipush X (v := nI 64) d_R_at_19 (by decide) ?_
  refine g_iload_n X 1 d_R_at_21 rfl rfl ?_
  refine n_mul X d_R_at_22 ?_
  refine g_bipush X (v := nI 8) d_R_at_23 (by decide) ?_
  refine g_iload_n X 2 d_R_at_25 rfl rfl ?_
  refine n_mul X d_R_at_26 ?_
  refine n_add X d_R_at_27 ?_
  refine g_iload_n X 3 d_R_at_28 rfl rfl ?_
  refine n_add X d_R_at_29 ?_
  refine a_has X (by omega) d_R_at_30 ?_
  refine z_ne X 38 d_R_at_31 (by decide) (fun h31 => ?_) (fun h31 => ?_)
  · exact absurd (hh.symm.trans h31) (by decide)
  · refine g_iconst X (v := nI 2) d_R_at_34 (by decide) ?_
    refine g_goto X 39 d_R_at_35 (by decide) ?_
    refine p_thrown X hi d_R_at_39 ?_
    refine g_aload_n X 0 d_R_at_42 rfl rfl ?_
    refine q_thrown X d_R_at_43 ?_
    refine g_if_le X 53 d_R_at_46 (by decide) (fun q => absurd q (by decide)) (fun _ => ?_)
    refine g_lconst X (v := 0) d_R_at_49 (by decide) ?_
    refine g_goto X 69 d_R_at_50 (by decide) ?_
    exact g_lret X KOk.n d_R_at_69 ⟨rfl, rfl⟩
set_option maxHeartbeats 4000000 in
set_option maxRecDepth 100000 in
theorem c_R_at_x {l : Launch} (htr : l.stackTraces = false) {δ : EX} {b : Nat → Nat} (hi : In7 b) {th wd hg : Nat} {s : SS} {w : WS} {x1 x2 x3 : Int32} (h : bP s x1 x2 x3) : CTN l y_R_at cw_R_at (RM 2) δ (Br b) (rl δ b th wd hg s w) [.ref (b 0), .int x1, .int x2, .int x3] (some (.long 0)) (rl δ b 1 wd hg s w) := by
  refine CT.ofN (lv := [(0, .ref (b 0)), (1, .int x1), (2, .int x2), (3, .int x3)]) (Or.inl ⟨rfl, rfl⟩) (by decide) htr rfl (Nat.le_of_ble_eq_true rfl) (fun κ hl X => ?_)
  subst hl
  refine g_aload_n X 0 d_R_at_0 rfl rfl ?_
  refine g_aload_n X 0 d_R_at_1 rfl rfl ?_
  refine g_iload_n X 1 d_R_at_2 rfl rfl ?_
  refine g_iload_n X 2 d_R_at_3 rfl rfl ?_
  refine g_iload_n X 3 d_R_at_4 rfl rfl ?_
  refine g_VP X KOk.n v_R_42 (q0 := 0) rfl (ci := 2) rfl (c_R_isPl_x htr h) d_R_at_5 rfl ?_ ?_
  · exact ⟨Nat.le_of_ble_eq_true rfl, Nat.le_of_ble_eq_true rfl, Nat.le_of_ble_eq_true rfl, Nat.le_of_ble_eq_true rfl⟩
  refine g_if_ne X 15 d_R_at_8 (by decide) (fun q => absurd q (by decide)) (fun _ => ?_)
  refine g_iconst X (v := nI 1) d_R_at_11 (by decide) ?_
  refine g_goto X 39 d_R_at_12 (by decide) ?_
  refine p_thrown X hi d_R_at_39 ?_
  refine g_aload_n X 0 d_R_at_42 rfl rfl ?_
  refine q_thrown X d_R_at_43 ?_
  refine g_if_le X 53 d_R_at_46 (by decide) (fun q => absurd q (by decide)) (fun _ => ?_)
  refine g_lconst X (v := 0) d_R_at_49 (by decide) ?_
  refine g_goto X 69 d_R_at_50 (by decide) ?_
  exact g_lret X KOk.n d_R_at_69 ⟨rfl, rfl⟩
def enj (h : Nat → Bool) (r p : Nat) (z : Nat) : Nat := z + if h (64 * r + p) = true then 1 else 0
def en (h : Nat → Bool) (r : Nat) : Nat := fl (enj h r) 0 64 0
theorem en_bd (h : Nat → Bool) (r : Nat) : ∀ n i z, fl (enj h r) i n z ≤ z + n
  | 0, _, _ => Nat.le_refl _
  | n + 1, i, z => by
    have := en_bd h r n (i + 1) (enj h r i z)
    have h2 : enj h r i z ≤ z + 1 := by
      unfold enj
      split <;> omega
    show fl (enj h r) (i + 1) n (enj h r i z) ≤ _
    omega
theorem en_le (h : Nat → Bool) (r : Nat) : en h r ≤ 64 := by
  have := en_bd h r 64 0 0
  unfold en
  omega
set_option maxHeartbeats 4000000 in
set_option maxRecDepth 100000 in
theorem l_R_entries {κ : KX} {δ : EX} {b : Nat → Nat} {th wd hg : Nat} {P : OC → va_W → Prop} (X : XO κ R_R b_R_entries 4 (some .int) δ (RM 0) NoA []) (htr : (xl κ).stackTraces = false) {s : SS} {w : WS} {r : Nat} (hr : r < 6) : ∀ (n i : Nat) (z : Nat), i + n = 64 → G κ 4 δ (Kp κ) (Qe κ δ NoA P) 0 0 (rl δ b th wd hg s w) [(0, .ref (b 0)), (1, .int (nI r)), (2, .int (nI (fl (enj s.2.2.1 r) i n z)))] [] 41 → G κ 4 δ (Kp κ) (Qe κ δ NoA P) 0 0 (rl δ b th wd hg s w) [(0, .ref (b 0)), (1, .int (nI r)), (2, .int (nI z)), (3, .int (nI (64 * r + i)))] [] 7 := by
  intro n
  induction n with
  | zero =>
    intro i z h hx
    refine g_iload_n X 3 d_R_entries_7 rfl rfl ?_
    refine g_bipush X (v := nI 64) d_R_entries_8 (by decide) ?_
    refine g_iload_n X 1 d_R_entries_10 rfl rfl ?_
    refine n_mul X d_R_entries_11 ?_
    refine g_bipush X (v := nI 64) d_R_entries_12 (by decide) ?_
    refine n_add X d_R_entries_14 ?_
    refine n_ge X 41 d_R_entries_15 (by decide) (by omega) (by omega) (fun h15 => ?_) (fun h15 => ?_)
    · exact g_sb hx ⟨rfl, rfl, rfl, trivial⟩
    · exact absurd h15 (by omega)
  | succ n ih =>
    intro i z h hx
    refine g_iload_n X 3 d_R_entries_7 rfl rfl ?_
    refine g_bipush X (v := nI 64) d_R_entries_8 (by decide) ?_
    refine g_iload_n X 1 d_R_entries_10 rfl rfl ?_
    refine n_mul X d_R_entries_11 ?_
    refine g_bipush X (v := nI 64) d_R_entries_12 (by decide) ?_
    refine n_add X d_R_entries_14 ?_
    refine n_ge X 41 d_R_entries_15 (by decide) (by omega) (by omega) (fun h15 => ?_) (fun h15 => ?_)
    · exact absurd h15 (by omega)
    · refine g_iload_n X 2 d_R_entries_18 rfl rfl ?_
      refine g_aload_n X 0 d_R_entries_19 rfl rfl ?_
      refine q_has X d_R_entries_20 ?_
      refine g_iload_n X 3 d_R_entries_23 rfl rfl ?_
      refine a_has X (by omega) d_R_entries_24 ?_
      refine z_eq X 32 d_R_entries_25 (by decide) (fun h25 => ?_) (fun h25 => ?_)
      · refine g_iconst X (v := nI 0) d_R_entries_32 (by decide) ?_
        refine n_add X d_R_entries_33 ?_
        refine g_istore_n X 2 d_R_entries_34 rfl (by decide) ?_
        refine g_iinc X d_R_entries_35 rfl (nI_1 _) (by decide) ?_
        refine g_goto X 7 d_R_entries_38 (by decide) ?_
        exact g_sb (ih (i + 1) _ (by omega) (g_fl (wf := fun z => (rl δ b th wd hg s w)) (lf := fun z => [(0, .ref (b 0)), (1, .int (nI r)), (2, .int (nI z))]) (F := enj s.2.2.1 r) (by simp [enj, h25]) hx)) ⟨rfl, rfl, rfl, rfl, trivial⟩
      · refine g_iconst X (v := nI 1) d_R_entries_28 (by decide) ?_
        refine g_goto X 33 d_R_entries_29 (by decide) ?_
        refine n_add X d_R_entries_33 ?_
        refine g_istore_n X 2 d_R_entries_34 rfl (by decide) ?_
        refine g_iinc X d_R_entries_35 rfl (nI_1 _) (by decide) ?_
        refine g_goto X 7 d_R_entries_38 (by decide) ?_
        exact g_sb (ih (i + 1) _ (by omega) (g_fl (wf := fun z => (rl δ b th wd hg s w)) (lf := fun z => [(0, .ref (b 0)), (1, .int (nI r)), (2, .int (nI z))]) (F := enj s.2.2.1 r) (by simp [enj, h25]) hx)) ⟨rfl, rfl, rfl, rfl, trivial⟩
set_option maxHeartbeats 4000000 in
set_option maxRecDepth 100000 in
theorem c_R_entries {l : Launch} (htr : l.stackTraces = false) {δ : EX} {b : Nat → Nat} {th wd hg : Nat} {s : SS} {w : WS} {r : Nat} (hr : r < 6) : CTP l y_R_entries cw_R_entries (RM 0) δ (rl δ b th wd hg s w) [.ref (b 0), .int (nI r)] (.inr (some (.int (nI (en s.2.2.1 r))))) := by
  refine CT.ofP (lv := [(0, .ref (b 0)), (1, .int (nI r))]) (Or.inl ⟨rfl, rfl⟩) (by decide) htr rfl (Nat.le_of_ble_eq_true rfl) (fun κ hl X => ?_)
  subst hl
  refine g_iconst X (v := nI 0) d_R_entries_0 (by decide) ?_
  refine g_istore_n X 2 d_R_entries_1 rfl (by decide) ?_
  refine g_bipush X (v := nI 64) d_R_entries_2 (by decide) ?_
  refine g_iload_n X 1 d_R_entries_4 rfl rfl ?_
  refine n_mul X d_R_entries_5 ?_
  refine g_istore_n X 3 d_R_entries_6 rfl (by decide) ?_
  refine g_sb (l_R_entries X htr hr 64 0 0 (by omega) ?_) ⟨rfl, rfl, rfl, rfl, trivial⟩
  refine g_iload_n X 2 d_R_entries_41 rfl rfl ?_
  exact g_iret X KOk.p d_R_entries_42 ⟨rfl, rfl⟩
set_option maxHeartbeats 4000000 in
set_option maxRecDepth 100000 in
theorem c_R_size {l : Launch} (htr : l.stackTraces = false) {δ : EX} {b : Nat → Nat} (hi : In7 b) {th wd hg : Nat} {s : SS} {w : WS} {r : Nat} (hr : r < 6) : CTN l y_R_size cw_R_size (RM 1) δ (Br b) (rl δ b th wd hg s w) [.ref (b 0), .int (nI r)] (some (.int (nI (s.1 r + 16 * s.2.1 r + 256 * en s.2.2.1 r)))) (rl δ b 0 wd hg s w) := by
  refine CT.ofN (lv := [(0, .ref (b 0)), (1, .int (nI r))]) (Or.inl ⟨rfl, rfl⟩) (by decide) htr rfl (Nat.le_of_ble_eq_true rfl) (fun κ hl X => ?_)
  subst hl
  refine g_aload_n X 0 d_R_size_0 rfl rfl ?_
  refine g_iload_n X 1 d_R_size_1 rfl rfl ?_
  refine g_SP X KOk.n s_R_38 (c_R_isReg htr hr) d_R_size_2 rfl ?_ ?_
  · exact ⟨Nat.le_of_ble_eq_true rfl, Nat.le_of_ble_eq_true rfl, Nat.le_of_ble_eq_true rfl, Nat.le_of_ble_eq_true rfl⟩
  refine g_if_eq X 12 d_R_size_5 (by decide) (fun q => absurd q (by decide)) (fun _ => ?_)
  refine g_iconst X (v := nI 0) d_R_size_8 (by decide) ?_
  refine g_goto X 13 d_R_size_9 (by decide) ?_
  refine p_thrown X hi d_R_size_13 ?_
  refine g_aload_n X 0 d_R_size_16 rfl rfl ?_
  refine q_thrown X d_R_size_17 ?_
  refine g_if_le X 27 d_R_size_20 (by decide) (fun _ => ?_) (fun q => absurd q (by decide))
  refine g_aload_n X 0 d_R_size_27 rfl rfl ?_
  refine q_rows X d_R_size_28 ?_
  refine g_iload_n X 1 d_R_size_31 rfl rfl ?_
  refine a_rows X (by omega) d_R_size_32 ?_
  refine g_bipush X (v := nI 16) d_R_size_33 (by decide) ?_
  refine g_aload_n X 0 d_R_size_35 rfl rfl ?_
  refine q_columns X d_R_size_36 ?_
  refine g_iload_n X 1 d_R_size_39 rfl rfl ?_
  refine a_columns X (by omega) d_R_size_40 ?_
  refine n_mul X d_R_size_41 ?_
  refine n_add X d_R_size_42 ?_
  refine g_sipush X (v := nI 256) d_R_size_43 (by decide) ?_
  refine g_aload_n X 0 d_R_size_46 rfl rfl ?_
  refine g_iload_n X 1 d_R_size_47 rfl rfl ?_
  refine g_VP X KOk.n v_R_50 (q0 := 0) rfl (ci := 2) rfl (c_R_entries htr hr) d_R_size_48 rfl ?_ ?_
  · exact ⟨Nat.le_of_ble_eq_true rfl, Nat.le_of_ble_eq_true rfl, Nat.le_of_ble_eq_true rfl, Nat.le_of_ble_eq_true rfl⟩
  refine n_mul X d_R_size_51 ?_
  refine n_add X d_R_size_52 ?_
  exact g_iret X KOk.n d_R_size_53 ⟨rfl, rfl⟩
set_option maxHeartbeats 4000000 in
set_option maxRecDepth 100000 in
theorem c_R_size_x {l : Launch} (htr : l.stackTraces = false) {δ : EX} {b : Nat → Nat} (hi : In7 b) {th wd hg : Nat} {s : SS} {w : WS} {x : Int32} (hx : bR x) : CTN l y_R_size cw_R_size (RM 1) δ (Br b) (rl δ b th wd hg s w) [.ref (b 0), .int x] (some (.int 0)) (rl δ b 1 wd hg s w) := by
  refine CT.ofN (lv := [(0, .ref (b 0)), (1, .int x)]) (Or.inl ⟨rfl, rfl⟩) (by decide) htr rfl (Nat.le_of_ble_eq_true rfl) (fun κ hl X => ?_)
  subst hl
  refine g_aload_n X 0 d_R_size_0 rfl rfl ?_
  refine g_iload_n X 1 d_R_size_1 rfl rfl ?_
  refine g_SP X KOk.n s_R_38 (c_R_isReg_x htr hx) d_R_size_2 rfl ?_ ?_
  · exact ⟨Nat.le_of_ble_eq_true rfl, Nat.le_of_ble_eq_true rfl, Nat.le_of_ble_eq_true rfl, Nat.le_of_ble_eq_true rfl⟩
  refine g_if_eq X 12 d_R_size_5 (by decide) (fun _ => ?_) (fun q => absurd q (by decide))
  refine g_iconst X (v := nI 1) d_R_size_12 (by decide) ?_
  refine p_thrown X hi d_R_size_13 ?_
  refine g_aload_n X 0 d_R_size_16 rfl rfl ?_
  refine q_thrown X d_R_size_17 ?_
  refine g_if_le X 27 d_R_size_20 (by decide) (fun q => absurd q (by decide)) (fun _ => ?_)
  refine g_iconst X (v := nI 0) d_R_size_23 (by decide) ?_
  refine g_goto X 53 d_R_size_24 (by decide) ?_
  exact g_iret X KOk.n d_R_size_53 ⟨rfl, rfl⟩
end RA1
