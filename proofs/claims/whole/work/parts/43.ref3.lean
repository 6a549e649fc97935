section RA3
theorem bK_or (x : Int32) : bH 3 x ∨ ∃ k, k < 4 ∧ x = nI k := by
  rcases bH_or (n := 3) (by decide) x with h | ⟨k, h, rfl⟩
  · exact Or.inl h
  · exact Or.inr ⟨k, by omega, rfl⟩
theorem bK_no {k : Nat} (h : k < 4) : ¬ bH 3 (nI k) := bH_no (by decide) (by omega)
theorem b2_1 {x : Bool} : b2 x = nI 1 ↔ x = true := by cases x <;> decide
theorem b2_00 {x : Bool} : b2 x = nI 0 ↔ x = false := by cases x <;> decide
/-- what ends a call that may have gone out of range -/
def FN (δ : EX) (b : Nat → Nat) (wd hg : Nat) (s : SS) (W : WS) (to : Nat) (x : Int32) : OC → va_W → Prop := fun r ww => (W.1 = true ∧ r = .inr (some (.int 0)) ∧ ww = rl δ b 3 wd hg s W) ∨ (W.1 = false ∧ r = .inr (some (.int (nI (en (fiH s W to x).1 to)))) ∧ ww = rl δ b 0 wd hg (fiS s W wd hg to x) W)
set_option maxHeartbeats 4000000 in
set_option maxRecDepth 100000 in
theorem c_R_pair {l : Launch} (htr : l.stackTraces = false) {δ : EX} {b : Nat → Nat} {th wd hg : Nat} {s : SS} {w : WS} {to a c k : Nat} (hto : to < 6) (ha : a < 6) (hc : c < 6) (hk : k < 4) (h8 : ∀ r, r < 6 → s.1 r ≤ 8 ∧ s.2.1 r ≤ 8) (h : s.1 a = s.1 c ∧ s.2.1 a = s.2.1 c) : CTP l y_R_pair cw_R_pair (RM 1) δ (rl δ b th wd hg s w) [.ref (b 0), .int (nI to), .int (nI a), .int (nI c), .int (nI k)] (.inr (some (.int (nI 0)))) := by
  refine CT.ofP (lv := [(0, .ref (b 0)), (1, .int (nI to)), (2, .int (nI a)), (3, .int (nI c)), (4, .int (nI k))]) (Or.inl ⟨rfl, rfl⟩) (by decide) htr rfl (Nat.le_of_ble_eq_true rfl) (fun κ hl X => ?_)
  subst hl
  refine g_iload_n X 1 d_R_pair_0 rfl rfl ?_
  refine g_SP X KOk.p s_R_38 (c_R_isReg htr hto) d_R_pair_1 rfl ?_ ?_
  · exact ⟨Nat.le_of_ble_eq_true rfl, Nat.le_of_ble_eq_true rfl, Nat.le_of_ble_eq_true rfl, Nat.le_of_ble_eq_true rfl⟩
  refine g_if_eq X 29 d_R_pair_4 (by decide) (fun q => absurd q (by decide)) (fun _ => ?_)
  refine g_iload_n X 2 d_R_pair_7 rfl rfl ?_
  refine g_SP X KOk.p s_R_38 (c_R_isReg htr ha) d_R_pair_8 rfl ?_ ?_
  · exact ⟨Nat.le_of_ble_eq_true rfl, Nat.le_of_ble_eq_true rfl, Nat.le_of_ble_eq_true rfl, Nat.le_of_ble_eq_true rfl⟩
  refine g_if_eq X 29 d_R_pair_11 (by decide) (fun q => absurd q (by decide)) (fun _ => ?_)
  refine g_iload_n X 3 d_R_pair_14 rfl rfl ?_
  refine g_SP X KOk.p s_R_38 (c_R_isReg htr hc) d_R_pair_15 rfl ?_ ?_
  · exact ⟨Nat.le_of_ble_eq_true rfl, Nat.le_of_ble_eq_true rfl, Nat.le_of_ble_eq_true rfl, Nat.le_of_ble_eq_true rfl⟩
  refine g_if_eq X 29 d_R_pair_18 (by decide) (fun q => absurd q (by decide)) (fun _ => ?_)
  refine g_iload X d_R_pair_21 rfl ?_
  refine g_SP X KOk.p s_R_79 (c_R_isRing htr hk) d_R_pair_23 rfl ?_ ?_
  · exact ⟨Nat.le_of_ble_eq_true rfl, Nat.le_of_ble_eq_true rfl, Nat.le_of_ble_eq_true rfl, Nat.le_of_ble_eq_true rfl⟩
  refine g_if_ne X 33 d_R_pair_26 (by decide) (fun _ => ?_) (fun q => absurd q (by decide))
  have q8 := h8 a ha
  have q9 := h8 c hc
  refine g_aload_n X 0 d_R_pair_33 rfl rfl ?_
  refine q_rows X d_R_pair_34 ?_
  refine g_iload_n X 2 d_R_pair_37 rfl rfl ?_
  refine a_rows X (by omega) d_R_pair_38 ?_
  refine g_aload_n X 0 d_R_pair_39 rfl rfl ?_
  refine q_rows X d_R_pair_40 ?_
  refine g_iload_n X 3 d_R_pair_43 rfl rfl ?_
  refine a_rows X (by omega) d_R_pair_44 ?_
  refine n_ne X 63 d_R_pair_45 (by decide) (by omega) (by omega) (fun h45 => ?_) (fun h45 => ?_)
  · exact absurd h.1 h45
  · refine g_aload_n X 0 d_R_pair_48 rfl rfl ?_
    refine q_columns X d_R_pair_49 ?_
    refine g_iload_n X 2 d_R_pair_52 rfl rfl ?_
    refine a_columns X (by omega) d_R_pair_53 ?_
    refine g_aload_n X 0 d_R_pair_54 rfl rfl ?_
    refine q_columns X d_R_pair_55 ?_
    refine g_iload_n X 3 d_R_pair_58 rfl rfl ?_
    refine a_columns X (by omega) d_R_pair_59 ?_
    refine n_eq X 67 d_R_pair_60 (by decide) (by omega) (by omega) (fun h60 => ?_) (fun h60 => ?_)
    · refine g_iconst X (v := nI 0) d_R_pair_67 (by decide) ?_
      exact g_iret X KOk.p d_R_pair_68 ⟨rfl, rfl⟩
    · exact absurd h.2 h60
set_option maxHeartbeats 4000000 in
set_option maxRecDepth 100000 in
theorem c_R_pair_x2 {l : Launch} (htr : l.stackTraces = false) {δ : EX} {b : Nat → Nat} {th wd hg : Nat} {s : SS} {w : WS} {to a c k : Nat} (hto : to < 6) (ha : a < 6) (hc : c < 6) (hk : k < 4) (h8 : ∀ r, r < 6 → s.1 r ≤ 8 ∧ s.2.1 r ≤ 8) (h : ¬ (s.1 a = s.1 c ∧ s.2.1 a = s.2.1 c)) : CTP l y_R_pair cw_R_pair (RM 1) δ (rl δ b th wd hg s w) [.ref (b 0), .int (nI to), .int (nI a), .int (nI c), .int (nI k)] (.inr (some (.int (nI 2)))) := by
  refine CT.ofP (lv := [(0, .ref (b 0)), (1, .int (nI to)), (2, .int (nI a)), (3, .int (nI c)), (4, .int (nI k))]) (Or.inl ⟨rfl, rfl⟩) (by decide) htr rfl (Nat.le_of_ble_eq_true rfl) (fun κ hl X => ?_)
  subst hl
  refine g_iload_n X 1 d_R_pair_0 rfl rfl ?_
  refine g_SP X KOk.p s_R_38 (c_R_isReg htr hto) d_R_pair_1 rfl ?_ ?_
  · exact ⟨Nat.le_of_ble_eq_true rfl, Nat.le_of_ble_eq_true rfl, Nat.le_of_ble_eq_true rfl, Nat.le_of_ble_eq_true rfl⟩
  refine g_if_eq X 29 d_R_pair_4 (by decide) (fun q => absurd q (by decide)) (fun _ => ?_)
  refine g_iload_n X 2 d_R_pair_7 rfl rfl ?_
  refine g_SP X KOk.p s_R_38 (c_R_isReg htr ha) d_R_pair_8 rfl ?_ ?_
  · exact ⟨Nat.le_of_ble_eq_true rfl, Nat.le_of_ble_eq_true rfl, Nat.le_of_ble_eq_true rfl, Nat.le_of_ble_eq_true rfl⟩
  refine g_if_eq X 29 d_R_pair_11 (by decide) (fun q => absurd q (by decide)) (fun _ => ?_)
  refine g_iload_n X 3 d_R_pair_14 rfl rfl ?_
  refine g_SP X KOk.p s_R_38 (c_R_isReg htr hc) d_R_pair_15 rfl ?_ ?_
  · exact ⟨Nat.le_of_ble_eq_true rfl, Nat.le_of_ble_eq_true rfl, Nat.le_of_ble_eq_true rfl, Nat.le_of_ble_eq_true rfl⟩
  refine g_if_eq X 29 d_R_pair_18 (by decide) (fun q => absurd q (by decide)) (fun _ => ?_)
  refine g_iload X d_R_pair_21 rfl ?_
  refine g_SP X KOk.p s_R_79 (c_R_isRing htr hk) d_R_pair_23 rfl ?_ ?_
  · exact ⟨Nat.le_of_ble_eq_true rfl, Nat.le_of_ble_eq_true rfl, Nat.le_of_ble_eq_true rfl, Nat.le_of_ble_eq_true rfl⟩
  refine g_if_ne X 33 d_R_pair_26 (by decide) (fun _ => ?_) (fun q => absurd q (by decide))
  have q8 := h8 a ha
  have q9 := h8 c hc
  refine g_aload_n X 0 d_R_pair_33 rfl rfl ?_
  refine q_rows X d_R_pair_34 ?_
  refine g_iload_n X 2 d_R_pair_37 rfl rfl ?_
  refine a_rows X (by omega) d_R_pair_38 ?_
  refine g_aload_n X 0 d_R_pair_39 rfl rfl ?_
  refine q_rows X d_R_pair_40 ?_
  refine g_iload_n X 3 d_R_pair_43 rfl rfl ?_
  refine a_rows X (by omega) d_R_pair_44 ?_
  refine n_ne X 63 d_R_pair_45 (by decide) (by omega) (by omega) (fun h45 => ?_) (fun h45 => ?_)
  · refine g_iconst X (v := nI 2) d_R_pair_63 (by decide) ?_
    refine g_goto X 68 d_R_pair_64 (by decide) ?_
    exact g_iret X KOk.p d_R_pair_68 ⟨rfl, rfl⟩
  · refine g_aload_n X 0 d_R_pair_48 rfl rfl ?_
    refine q_columns X d_R_pair_49 ?_
    refine g_iload_n X 2 d_R_pair_52 rfl rfl ?_
    refine a_columns X (by omega) d_R_pair_53 ?_
    refine g_aload_n X 0 d_R_pair_54 rfl rfl ?_
    refine q_columns X d_R_pair_55 ?_
    refine g_iload_n X 3 d_R_pair_58 rfl rfl ?_
    refine a_columns X (by omega) d_R_pair_59 ?_
    refine n_eq X 67 d_R_pair_60 (by decide) (by omega) (by omega) (fun h60 => ?_) (fun h60 => ?_)
    · exact absurd ⟨h45, h60⟩ h
    · refine g_iconst X (v := nI 2) d_R_pair_63 (by decide) ?_
      refine g_goto X 68 d_R_pair_64 (by decide) ?_
      exact g_iret X KOk.p d_R_pair_68 ⟨rfl, rfl⟩
set_option maxHeartbeats 4000000 in
set_option maxRecDepth 100000 in
theorem c_R_pair_x1 {l : Launch} (htr : l.stackTraces = false) {δ : EX} {b : Nat → Nat} {th wd hg : Nat} {s : SS} {w : WS} {x1 x2 x3 x4 : Int32} (h : bR x1 ∨ bR x2 ∨ bR x3 ∨ bH 3 x4) : CTP l y_R_pair cw_R_pair (RM 1) δ (rl δ b th wd hg s w) [.ref (b 0), .int x1, .int x2, .int x3, .int x4] (.inr (some (.int (nI 1)))) := by
  refine CT.ofP (lv := [(0, .ref (b 0)), (1, .int x1), (2, .int x2), (3, .int x3), (4, .int x4)]) (Or.inl ⟨rfl, rfl⟩) (by decide) htr rfl (Nat.le_of_ble_eq_true rfl) (fun κ hl X => ?_)
  subst hl
  refine g_iload_n X 1 d_R_pair_0 rfl rfl ?_
  rcases bR_or x1 with q | ⟨r1, k1, rfl⟩
  · refine g_SP X KOk.p s_R_38 (c_R_isReg_x htr q) d_R_pair_1 rfl ?_ ?_
    · exact ⟨Nat.le_of_ble_eq_true rfl, Nat.le_of_ble_eq_true rfl, Nat.le_of_ble_eq_true rfl, Nat.le_of_ble_eq_true rfl⟩
    refine g_if_eq X 29 d_R_pair_4 (by decide) (fun _ => ?_) (fun q => absurd q (by decide))
    refine g_iconst X (v := nI 1) d_R_pair_29 (by decide) ?_
    refine g_goto X 68 d_R_pair_30 (by decide) ?_
    exact g_iret X KOk.p d_R_pair_68 ⟨rfl, rfl⟩
  · refine g_SP X KOk.p s_R_38 (c_R_isReg htr k1) d_R_pair_1 rfl ?_ ?_
    · exact ⟨Nat.le_of_ble_eq_true rfl, Nat.le_of_ble_eq_true rfl, Nat.le_of_ble_eq_true rfl, Nat.le_of_ble_eq_true rfl⟩
    refine g_if_eq X 29 d_R_pair_4 (by decide) (fun q => absurd q (by decide)) (fun _ => ?_)
    refine g_iload_n X 2 d_R_pair_7 rfl rfl ?_
    rcases bR_or x2 with q | ⟨r2, k2, rfl⟩
    · refine g_SP X KOk.p s_R_38 (c_R_isReg_x htr q) d_R_pair_8 rfl ?_ ?_
      · exact ⟨Nat.le_of_ble_eq_true rfl, Nat.le_of_ble_eq_true rfl, Nat.le_of_ble_eq_true rfl, Nat.le_of_ble_eq_true rfl⟩
      refine g_if_eq X 29 d_R_pair_11 (by decide) (fun _ => ?_) (fun q => absurd q (by decide))
      refine g_iconst X (v := nI 1) d_R_pair_29 (by decide) ?_
      refine g_goto X 68 d_R_pair_30 (by decide) ?_
      exact g_iret X KOk.p d_R_pair_68 ⟨rfl, rfl⟩
    · refine g_SP X KOk.p s_R_38 (c_R_isReg htr k2) d_R_pair_8 rfl ?_ ?_
      · exact ⟨Nat.le_of_ble_eq_true rfl, Nat.le_of_ble_eq_true rfl, Nat.le_of_ble_eq_true rfl, Nat.le_of_ble_eq_true rfl⟩
      refine g_if_eq X 29 d_R_pair_11 (by decide) (fun q => absurd q (by decide)) (fun _ => ?_)
      refine g_iload_n X 3 d_R_pair_14 rfl rfl ?_
      rcases bR_or x3 with q | ⟨r3, k3, rfl⟩
      · refine g_SP X KOk.p s_R_38 (c_R_isReg_x htr q) d_R_pair_15 rfl ?_ ?_
        · exact ⟨Nat.le_of_ble_eq_true rfl, Nat.le_of_ble_eq_true rfl, Nat.le_of_ble_eq_true rfl, Nat.le_of_ble_eq_true rfl⟩
        refine g_if_eq X 29 d_R_pair_18 (by decide) (fun _ => ?_) (fun q => absurd q (by decide))
        refine g_iconst X (v := nI 1) d_R_pair_29 (by decide) ?_
        refine g_goto X 68 d_R_pair_30 (by decide) ?_
        exact g_iret X KOk.p d_R_pair_68 ⟨rfl, rfl⟩
      · refine g_SP X KOk.p s_R_38 (c_R_isReg htr k3) d_R_pair_15 rfl ?_ ?_
        · exact ⟨Nat.le_of_ble_eq_true rfl, Nat.le_of_ble_eq_true rfl, Nat.le_of_ble_eq_true rfl, Nat.le_of_ble_eq_true rfl⟩
        refine g_if_eq X 29 d_R_pair_18 (by decide) (fun q => absurd q (by decide)) (fun _ => ?_)
        refine g_iload X d_R_pair_21 rfl ?_
        rcases bK_or x4 with q | ⟨r4, k4, rfl⟩
        · refine g_SP X KOk.p s_R_79 (c_R_isRing_x htr q) d_R_pair_23 rfl ?_ ?_
          · exact ⟨Nat.le_of_ble_eq_true rfl, Nat.le_of_ble_eq_true rfl, Nat.le_of_ble_eq_true rfl, Nat.le_of_ble_eq_true rfl⟩
          refine g_if_ne X 33 d_R_pair_26 (by decide) (fun q => absurd q (by decide)) (fun _ => ?_)
          refine g_iconst X (v := nI 1) d_R_pair_29 (by decide) ?_
          refine g_goto X 68 d_R_pair_30 (by decide) ?_
          exact g_iret X KOk.p d_R_pair_68 ⟨rfl, rfl⟩
        · refine g_SP X KOk.p s_R_79 (c_R_isRing htr k4) d_R_pair_23 rfl ?_ ?_
          · exact ⟨Nat.le_of_ble_eq_true rfl, Nat.le_of_ble_eq_true rfl, Nat.le_of_ble_eq_true rfl, Nat.le_of_ble_eq_true rfl⟩
          refine g_if_ne X 33 d_R_pair_26 (by decide) (fun _ => ?_) (fun q => absurd q (by decide))
          exact absurd h (by
            rintro (q | q | q | q)
            · exact bR_no k1 q
            · exact bR_no k2 q
            · exact bR_no k3 q
            · exact bK_no k4 q)
def adj (s : SS) (a c k p : Nat) (w : WS) : WS := if s.2.2.1 (64 * a + p) = true then (if s.2.2.1 (64 * c + p) = true then mkS (w.1 || !inR (su0 k (s.2.2.2 (64 * a + p)) (s.2.2.2 (64 * c + p))), w.2) (8 * (p / 8) + p % 8) (su0 k (s.2.2.2 (64 * a + p)) (s.2.2.2 (64 * c + p))) else mkS w (8 * (p / 8) + p % 8) (s.2.2.2 (64 * a + p))) else if s.2.2.1 (64 * c + p) = true then mkS w (8 * (p / 8) + p % 8) (s.2.2.2 (64 * c + p)) else w
def adS (s : SS) (a c k : Nat) (w : WS) : WS := fl (adj s a c k) 0 64 w
def epj (s : SS) (a c k p : Nat) (w : WS) : WS := if s.2.2.1 (64 * a + p) = true ∧ s.2.2.1 (64 * c + p) = true then mkS (w.1 || prF k (s.2.2.2 (64 * a + p)) (s.2.2.2 (64 * c + p)), w.2) (8 * (p / 8) + p % 8) (prV k (s.2.2.2 (64 * a + p)) (s.2.2.2 (64 * c + p))) else w
def epS (s : SS) (a c k : Nat) (w : WS) : WS := fl (epj s a c k) 0 64 w
set_option maxHeartbeats 4000000 in
set_option maxRecDepth 100000 in
theorem l_R_add {κ : KX} {δ : EX} {b : Nat → Nat} {th wd hg : Nat} {P : OC → va_W → Prop} (X : XO κ R_R b_R_add 8 (some .int) δ (RM 2) (Br b) []) (htr : (xl κ).stackTraces = false) (hi : In7 b) {s : SS} {to a c k : Nat} (hto : to < 6) (ha : a < 6) (hc : c < 6) (hk : k < 4) : ∀ (n i : Nat) (w : WS), i + n = 64 → G κ 8 δ (Kn κ (Br b)) (Qe κ δ (Br b) P) 0 0 (rl δ b th wd hg s (fl (adj s a c k) i n w)) [(0, .ref (b 0)), (1, .int (nI to)), (2, .int (nI a)), (3, .int (nI c)), (4, .int (nI k))] [] 181 → G κ 8 δ (Kn κ (Br b)) (Qe κ δ (Br b) P) 0 0 (rl δ b th wd hg s w) [(0, .ref (b 0)), (1, .int (nI to)), (2, .int (nI a)), (3, .int (nI c)), (4, .int (nI k)), (5, .int (nI (i)))] [] 41 := by
  intro n
  induction n with
  | zero =>
    intro i w h hx
    refine g_iload X d_R_add_41 rfl ?_
    refine g_bipush X (v := nI 64) d_R_add_43 (by decide) ?_
    refine n_ge X 181 d_R_add_45 (by decide) (by omega) (by omega) (fun h45 => ?_) (fun h45 => ?_)
    · exact g_sb hx ⟨rfl, rfl, rfl, rfl, rfl, trivial⟩
    · exact absurd h45 (by omega)
  | succ n ih =>
    intro i w h hx
    refine g_iload X d_R_add_41 rfl ?_
    refine g_bipush X (v := nI 64) d_R_add_43 (by decide) ?_
    refine n_ge X 181 d_R_add_45 (by decide) (by omega) (by omega) (fun h45 => ?_) (fun h45 => ?_)
    · exact absurd h45 (by omega)
    · refine g_aload_n X 0 d_R_add_48 rfl rfl ?_
      refine q_has X d_R_add_49 ?_
      refine g_bipush X (v := nI 64) d_R_add_52 (by decide) ?_
      refine g_iload_n X 2 d_R_add_54 rfl rfl ?_
      refine n_mul X d_R_add_55 ?_
      refine g_iload X d_R_add_56 rfl ?_
      refine n_add X d_R_add_58 ?_
      refine a_has X (by omega) d_R_add_59 ?_
      refine g_istore X d_R_add_60 (by decide) ?_
      refine g_aload_n X 0 d_R_add_62 rfl rfl ?_
      refine q_has X d_R_add_63 ?_
      refine g_bipush X (v := nI 64) d_R_add_66 (by decide) ?_
      refine g_iload_n X 3 d_R_add_68 rfl rfl ?_
      refine n_mul X d_R_add_69 ?_
      refine g_iload X d_R_add_70 rfl ?_
      refine n_add X d_R_add_72 ?_
      refine a_has X (by omega) d_R_add_73 ?_
      refine g_istore X d_R_add_74 (by decide) ?_
      refine g_iload X d_R_add_76 rfl ?_
      refine z_ne X 86 d_R_add_78 (by decide) (fun h78 => ?_) (fun h78 => ?_)
      · refine g_aload_n X 0 d_R_add_86 rfl rfl ?_
        refine g_iload X d_R_add_87 rfl ?_
        refine g_bipush X (v := nI 8) d_R_add_89 (by decide) ?_
        refine n_div X (by omega) (by decide) (by decide) d_R_add_91 ?_
        refine g_iload X d_R_add_92 rfl ?_
        refine g_bipush X (v := nI 8) d_R_add_94 (by decide) ?_
        refine n_rem X (by omega) (by decide) (by decide) d_R_add_96 ?_
        refine g_iload X d_R_add_97 rfl ?_
        refine z_eq X 140 d_R_add_99 (by decide) (fun q => absurd ((h78).symm.trans q) (by decide)) (fun _ => ?_)
        refine g_iload X d_R_add_102 rfl ?_
        refine z_eq X 140 d_R_add_104 (by decide) (fun h104 => ?_) (fun h104 => ?_)
        · refine g_iload X d_R_add_140 rfl ?_
          refine z_eq X 160 d_R_add_142 (by decide) (fun q => absurd ((h78).symm.trans q) (by decide)) (fun _ => ?_)
          refine g_aload_n X 0 d_R_add_145 rfl rfl ?_
          refine q_value X d_R_add_146 ?_
          refine g_bipush X (v := nI 64) d_R_add_149 (by decide) ?_
          refine g_iload_n X 2 d_R_add_151 rfl rfl ?_
          refine n_mul X d_R_add_152 ?_
          refine g_iload X d_R_add_153 rfl ?_
          refine n_add X d_R_add_155 ?_
          refine a_value X (by omega) d_R_add_156 ?_
          refine g_goto X 172 d_R_add_157 (by decide) ?_
          refine g_VN1 X v_R_75 (q0 := 0) rfl (ci := 2) rfl (c_R_make htr hi (by omega) (by omega)) d_R_add_172 rfl ?_ ?_
          · exact ⟨Nat.le_of_ble_eq_true rfl, Nat.le_of_ble_eq_true rfl, Nat.le_of_ble_eq_true rfl, Nat.le_of_ble_eq_true rfl⟩
          refine g_iinc X d_R_add_175 rfl (nI_1 _) (by decide) ?_
          refine g_goto X 41 d_R_add_178 (by decide) ?_
          exact g_sb (ih (i + 1) _ (by omega) (g_fl (wf := fun z => (rl δ b th wd hg s z)) (lf := fun z => [(0, .ref (b 0)), (1, .int (nI to)), (2, .int (nI a)), (3, .int (nI c)), (4, .int (nI k))]) (F := adj s a c k) (by simp [adj, h78, h104]) hx)) ⟨rfl, rfl, rfl, rfl, rfl, rfl, trivial⟩
        · refine g_aload_n X 0 d_R_add_107 rfl rfl ?_
          refine g_iload X d_R_add_108 rfl ?_
          refine g_aload_n X 0 d_R_add_110 rfl rfl ?_
          refine q_value X d_R_add_111 ?_
          refine g_bipush X (v := nI 64) d_R_add_114 (by decide) ?_
          refine g_iload_n X 2 d_R_add_116 rfl rfl ?_
          refine n_mul X d_R_add_117 ?_
          refine g_iload X d_R_add_118 rfl ?_
          refine n_add X d_R_add_120 ?_
          refine a_value X (by omega) d_R_add_121 ?_
          refine g_aload_n X 0 d_R_add_122 rfl rfl ?_
          refine q_value X d_R_add_123 ?_
          refine g_bipush X (v := nI 64) d_R_add_126 (by decide) ?_
          refine g_iload_n X 3 d_R_add_128 rfl rfl ?_
          refine n_mul X d_R_add_129 ?_
          refine g_iload X d_R_add_130 rfl ?_
          refine n_add X d_R_add_132 ?_
          refine a_value X (by omega) d_R_add_133 ?_
          refine g_VN1 X v_R_72 (q0 := 0) rfl (ci := 2) rfl (c_R_sum htr hi hk) d_R_add_134 rfl ?_ ?_
          · exact ⟨Nat.le_of_ble_eq_true rfl, Nat.le_of_ble_eq_true rfl, Nat.le_of_ble_eq_true rfl, Nat.le_of_ble_eq_true rfl⟩
          refine g_goto X 172 d_R_add_137 (by decide) ?_
          refine g_VN1 X v_R_75 (q0 := 0) rfl (ci := 2) rfl (c_R_make htr hi (by omega) (by omega)) d_R_add_172 rfl ?_ ?_
          · exact ⟨Nat.le_of_ble_eq_true rfl, Nat.le_of_ble_eq_true rfl, Nat.le_of_ble_eq_true rfl, Nat.le_of_ble_eq_true rfl⟩
          refine g_iinc X d_R_add_175 rfl (nI_1 _) (by decide) ?_
          refine g_goto X 41 d_R_add_178 (by decide) ?_
          exact g_sb (ih (i + 1) _ (by omega) (g_fl (wf := fun z => (rl δ b th wd hg s z)) (lf := fun z => [(0, .ref (b 0)), (1, .int (nI to)), (2, .int (nI a)), (3, .int (nI c)), (4, .int (nI k))]) (F := adj s a c k) (by simp [adj, h78, h104]) hx)) ⟨rfl, rfl, rfl, rfl, rfl, rfl, trivial⟩
      · refine g_iload X d_R_add_81 rfl ?_
        refine z_eq X 175 d_R_add_83 (by decide) (fun h83 => ?_) (fun h83 => ?_)
        · refine g_iinc X d_R_add_175 rfl (nI_1 _) (by decide) ?_
          refine g_goto X 41 d_R_add_178 (by decide) ?_
          exact g_sb (ih (i + 1) _ (by omega) (g_fl (wf := fun z => (rl δ b th wd hg s z)) (lf := fun z => [(0, .ref (b 0)), (1, .int (nI to)), (2, .int (nI a)), (3, .int (nI c)), (4, .int (nI k))]) (F := adj s a c k) (by simp [adj, h78, h83]) hx)) ⟨rfl, rfl, rfl, rfl, rfl, rfl, trivial⟩
        · refine g_aload_n X 0 d_R_add_86 rfl rfl ?_
          refine g_iload X d_R_add_87 rfl ?_
          refine g_bipush X (v := nI 8) d_R_add_89 (by decide) ?_
          refine n_div X (by omega) (by decide) (by decide) d_R_add_91 ?_
          refine g_iload X d_R_add_92 rfl ?_
          refine g_bipush X (v := nI 8) d_R_add_94 (by decide) ?_
          refine n_rem X (by omega) (by decide) (by decide) d_R_add_96 ?_
          refine g_iload X d_R_add_97 rfl ?_
          refine z_eq X 140 d_R_add_99 (by decide) (fun _ => ?_) (fun q => absurd ((h78).symm.trans q) (by decide))
          refine g_iload X d_R_add_140 rfl ?_
          refine z_eq X 160 d_R_add_142 (by decide) (fun _ => ?_) (fun q => absurd ((h78).symm.trans q) (by decide))
          refine g_aload_n X 0 d_R_add_160 rfl rfl ?_
          refine q_value X d_R_add_161 ?_
          refine g_bipush X (v := nI 64) d_R_add_164 (by decide) ?_
          refine g_iload_n X 3 d_R_add_166 rfl rfl ?_
          refine n_mul X d_R_add_167 ?_
          refine g_iload X d_R_add_168 rfl ?_
          refine n_add X d_R_add_170 ?_
          refine a_value X (by omega) d_R_add_171 ?_
          refine g_VN1 X v_R_75 (q0 := 0) rfl (ci := 2) rfl (c_R_make htr hi (by omega) (by omega)) d_R_add_172 rfl ?_ ?_
          · exact ⟨Nat.le_of_ble_eq_true rfl, Nat.le_of_ble_eq_true rfl, Nat.le_of_ble_eq_true rfl, Nat.le_of_ble_eq_true rfl⟩
          refine g_iinc X d_R_add_175 rfl (nI_1 _) (by decide) ?_
          refine g_goto X 41 d_R_add_178 (by decide) ?_
          exact g_sb (ih (i + 1) _ (by omega) (g_fl (wf := fun z => (rl δ b th wd hg s z)) (lf := fun z => [(0, .ref (b 0)), (1, .int (nI to)), (2, .int (nI a)), (3, .int (nI c)), (4, .int (nI k))]) (F := adj s a c k) (by simp [adj, h78, h83]) hx)) ⟨rfl, rfl, rfl, rfl, rfl, rfl, trivial⟩
set_option maxHeartbeats 4000000 in
set_option maxRecDepth 100000 in
theorem c_R_add {l : Launch} (htr : l.stackTraces = false) {δ : EX} {b : Nat → Nat} (hi : In7 b) {th wd hg : Nat} {s : SS} {w : WS} {to a c k : Nat} (hto : to < 6) (ha : a < 6) (hc : c < 6) (hk : k < 4) (h8 : ∀ r, r < 6 → s.1 r ≤ 8 ∧ s.2.1 r ≤ 8) (h : s.1 a = s.1 c ∧ s.2.1 a = s.2.1 c) : CT l y_R_add cw_R_add (RM 2) δ (Br b) (rl δ b th wd hg s w) [.ref (b 0), .int (nI to), .int (nI a), .int (nI c), .int (nI k)] (FN δ b (s.2.1 a) (s.1 a) s (adS s a c k (bgS w)) to (nI k)) := by
  refine CT.ofN (lv := [(0, .ref (b 0)), (1, .int (nI to)), (2, .int (nI a)), (3, .int (nI c)), (4, .int (nI k))]) (Or.inl ⟨rfl, rfl⟩) (by decide) htr rfl (Nat.le_of_ble_eq_true rfl) (fun κ hl X => ?_)
  subst hl
  refine g_aload_n X 0 d_R_add_0 rfl rfl ?_
  refine g_aload_n X 0 d_R_add_1 rfl rfl ?_
  refine g_iload_n X 1 d_R_add_2 rfl rfl ?_
  refine g_iload_n X 2 d_R_add_3 rfl rfl ?_
  refine g_iload_n X 3 d_R_add_4 rfl rfl ?_
  refine g_iload X d_R_add_5 rfl ?_
  refine g_VP X KOk.n v_R_97 (q0 := 0) rfl (ci := 2) rfl (c_R_pair htr hto ha hc hk h8 h) d_R_add_7 rfl ?_ ?_
  · exact ⟨Nat.le_of_ble_eq_true rfl, Nat.le_of_ble_eq_true rfl, Nat.le_of_ble_eq_true rfl, Nat.le_of_ble_eq_true rfl⟩
  refine p_thrown X hi d_R_add_10 ?_
  refine g_aload_n X 0 d_R_add_13 rfl rfl ?_
  refine q_thrown X d_R_add_14 ?_
  refine g_if_le X 22 d_R_add_17 (by decide) (fun _ => ?_) (fun q => absurd q (by decide))
  refine g_aload_n X 0 d_R_add_22 rfl rfl ?_
  refine g_aload_n X 0 d_R_add_23 rfl rfl ?_
  refine q_rows X d_R_add_24 ?_
  refine g_iload_n X 2 d_R_add_27 rfl rfl ?_
  refine a_rows X (by omega) d_R_add_28 ?_
  refine g_aload_n X 0 d_R_add_29 rfl rfl ?_
  refine q_columns X d_R_add_30 ?_
  refine g_iload_n X 2 d_R_add_33 rfl rfl ?_
  refine a_columns X (by omega) d_R_add_34 ?_
  refine g_VN1 X v_R_82 (q0 := 0) rfl (ci := 2) rfl (c_R_begin htr hi) d_R_add_35 rfl ?_ ?_
  · exact ⟨Nat.le_of_ble_eq_true rfl, Nat.le_of_ble_eq_true rfl, Nat.le_of_ble_eq_true rfl, Nat.le_of_ble_eq_true rfl⟩
  refine g_iconst X (v := nI 0) d_R_add_38 (by decide) ?_
  refine g_istore X d_R_add_39 (by decide) ?_
  refine g_sb (l_R_add X htr hi hto ha hc hk 64 0 (bgS w) (by omega) ?_) ⟨rfl, rfl, rfl, rfl, rfl, rfl, trivial⟩
  change G κ _ δ _ _ 0 0 (rl δ b _ _ _ s (adS s a c k (bgS w))) _ _ _
  refine g_aload_n X 0 d_R_add_181 rfl rfl ?_
  refine g_aload_n X 0 d_R_add_182 rfl rfl ?_
  refine q_far X d_R_add_183 ?_
  refine z_eq X 193 d_R_add_186 (by decide) (fun h186 => ?_) (fun h186 => ?_)
  · refine g_iconst X (v := nI 0) d_R_add_193 (by decide) ?_
    refine p_thrown X hi d_R_add_194 ?_
    refine g_aload_n X 0 d_R_add_197 rfl rfl ?_
    refine q_far X d_R_add_198 ?_
    refine z_eq X 208 d_R_add_201 (by decide) (fun _ => ?_) (fun q => absurd ((h186).symm.trans q) (by decide))
    refine g_aload_n X 0 d_R_add_208 rfl rfl ?_
    refine g_iload_n X 1 d_R_add_209 rfl rfl ?_
    refine g_iload X d_R_add_210 rfl ?_
    refine g_VN1 X v_R_93 (q0 := 0) rfl (ci := 2) rfl (c_R_finish htr hi hto) d_R_add_212 rfl ?_ ?_
    · exact ⟨Nat.le_of_ble_eq_true rfl, Nat.le_of_ble_eq_true rfl, Nat.le_of_ble_eq_true rfl, Nat.le_of_ble_eq_true rfl⟩
    exact g_iret X KOk.n d_R_add_215 (Or.inr ⟨h186, rfl, rfl⟩)
  · refine g_iconst X (v := nI 3) d_R_add_189 (by decide) ?_
    refine g_goto X 194 d_R_add_190 (by decide) ?_
    refine p_thrown X hi d_R_add_194 ?_
    refine g_aload_n X 0 d_R_add_197 rfl rfl ?_
    refine q_far X d_R_add_198 ?_
    refine z_eq X 208 d_R_add_201 (by decide) (fun q => absurd ((h186).symm.trans q) (by decide)) (fun _ => ?_)
    refine g_iconst X (v := nI 0) d_R_add_204 (by decide) ?_
    refine g_goto X 215 d_R_add_205 (by decide) ?_
    exact g_iret X KOk.n d_R_add_215 (Or.inl ⟨h186, rfl, rfl⟩)
set_option maxHeartbeats 4000000 in
set_option maxRecDepth 100000 in
theorem c_R_add_x2 {l : Launch} (htr : l.stackTraces = false) {δ : EX} {b : Nat → Nat} (hi : In7 b) {th wd hg : Nat} {s : SS} {w : WS} {to a c k : Nat} (hto : to < 6) (ha : a < 6) (hc : c < 6) (hk : k < 4) (h8 : ∀ r, r < 6 → s.1 r ≤ 8 ∧ s.2.1 r ≤ 8) (h : ¬ (s.1 a = s.1 c ∧ s.2.1 a = s.2.1 c)) : CTN l y_R_add cw_R_add (RM 2) δ (Br b) (rl δ b th wd hg s w) [.ref (b 0), .int (nI to), .int (nI a), .int (nI c), .int (nI k)] (some (.int 0)) (rl δ b 2 wd hg s w) := by
  refine CT.ofN (lv := [(0, .ref (b 0)), (1, .int (nI to)), (2, .int (nI a)), (3, .int (nI c)), (4, .int (nI k))]) (Or.inl ⟨rfl, rfl⟩) (by decide) htr rfl (Nat.le_of_ble_eq_true rfl) (fun κ hl X => ?_)
  subst hl
  refine g_aload_n X 0 d_R_add_0 rfl rfl ?_
  refine g_aload_n X 0 d_R_add_1 rfl rfl ?_
  refine g_iload_n X 1 d_R_add_2 rfl rfl ?_
  refine g_iload_n X 2 d_R_add_3 rfl rfl ?_
  refine g_iload_n X 3 d_R_add_4 rfl rfl ?_
  refine g_iload X d_R_add_5 rfl ?_
  refine g_VP X KOk.n v_R_97 (q0 := 0) rfl (ci := 2) rfl (c_R_pair_x2 htr hto ha hc hk h8 h) d_R_add_7 rfl ?_ ?_
  · exact ⟨Nat.le_of_ble_eq_true rfl, Nat.le_of_ble_eq_true rfl, Nat.le_of_ble_eq_true rfl, Nat.le_of_ble_eq_true rfl⟩
  refine p_thrown X hi d_R_add_10 ?_
  refine g_aload_n X 0 d_R_add_13 rfl rfl ?_
  refine q_thrown X d_R_add_14 ?_
  refine g_if_le X 22 d_R_add_17 (by decide) (fun q => absurd q (by decide)) (fun _ => ?_)
  refine g_iconst X (v := nI 0) d_R_add_20 (by decide) ?_
  exact g_iret X KOk.n d_R_add_21 ⟨rfl, rfl⟩
set_option maxHeartbeats 4000000 in
set_option maxRecDepth 100000 in
theorem c_R_add_x1 {l : Launch} (htr : l.stackTraces = false) {δ : EX} {b : Nat → Nat} (hi : In7 b) {th wd hg : Nat} {s : SS} {w : WS} {x1 x2 x3 x4 : Int32} (h : bR x1 ∨ bR x2 ∨ bR x3 ∨ bH 3 x4) : CTN l y_R_add cw_R_add (RM 2) δ (Br b) (rl δ b th wd hg s w) [.ref (b 0), .int x1, .int x2, .int x3, .int x4] (some (.int 0)) (rl δ b 1 wd hg s w) := by
  refine CT.ofN (lv := [(0, .ref (b 0)), (1, .int x1), (2, .int x2), (3, .int x3), (4, .int x4)]) (Or.inl ⟨rfl, rfl⟩) (by decide) htr rfl (Nat.le_of_ble_eq_true rfl) (fun κ hl X => ?_)
  subst hl
  refine g_aload_n X 0 d_R_add_0 rfl rfl ?_
  refine g_aload_n X 0 d_R_add_1 rfl rfl ?_
  refine g_iload_n X 1 d_R_add_2 rfl rfl ?_
  refine g_iload_n X 2 d_R_add_3 rfl rfl ?_
  refine g_iload_n X 3 d_R_add_4 rfl rfl ?_
  refine g_iload X d_R_add_5 rfl ?_
  refine g_VP X KOk.n v_R_97 (q0 := 0) rfl (ci := 2) rfl (c_R_pair_x1 htr h) d_R_add_7 rfl ?_ ?_
  · exact ⟨Nat.le_of_ble_eq_true rfl, Nat.le_of_ble_eq_true rfl, Nat.le_of_ble_eq_true rfl, Nat.le_of_ble_eq_true rfl⟩
  refine p_thrown X hi d_R_add_10 ?_
  refine g_aload_n X 0 d_R_add_13 rfl rfl ?_
  refine q_thrown X d_R_add_14 ?_
  refine g_if_le X 22 d_R_add_17 (by decide) (fun q => absurd q (by decide)) (fun _ => ?_)
  refine g_iconst X (v := nI 0) d_R_add_20 (by decide) ?_
  exact g_iret X KOk.n d_R_add_21 ⟨rfl, rfl⟩
set_option maxHeartbeats 4000000 in
set_option maxRecDepth 100000 in
theorem l_R_each {κ : KX} {δ : EX} {b : Nat → Nat} {th wd hg : Nat} {P : OC → va_W → Prop} (X : XO κ R_R b_R_each 6 (some .int) δ (RM 2) (Br b) []) (htr : (xl κ).stackTraces = false) (hi : In7 b) {s : SS} {to a c k : Nat} (hto : to < 6) (ha : a < 6) (hc : c < 6) (hk : k < 4) : ∀ (n i : Nat) (w : WS), i + n = 64 → G κ 6 δ (Kn κ (Br b)) (Qe κ δ (Br b) P) 0 0 (rl δ b th wd hg s (fl (epj s a c k) i n w)) [(0, .ref (b 0)), (1, .int (nI to)), (2, .int (nI a)), (3, .int (nI c)), (4, .int (nI k))] [] 128 → G κ 6 δ (Kn κ (Br b)) (Qe κ δ (Br b) P) 0 0 (rl δ b th wd hg s w) [(0, .ref (b 0)), (1, .int (nI to)), (2, .int (nI a)), (3, .int (nI c)), (4, .int (nI k)), (5, .int (nI (i)))] [] 41 := by
  intro n
  induction n with
  | zero =>
    intro i w h hx
    refine g_iload X d_R_each_41 rfl ?_
    refine g_bipush X (v := nI 64) d_R_each_43 (by decide) ?_
    refine n_ge X 128 d_R_each_45 (by decide) (by omega) (by omega) (fun h45 => ?_) (fun h45 => ?_)
    · exact g_sb hx ⟨rfl, rfl, rfl, rfl, rfl, trivial⟩
    · exact absurd h45 (by omega)
  | succ n ih =>
    intro i w h hx
    refine g_iload X d_R_each_41 rfl ?_
    refine g_bipush X (v := nI 64) d_R_each_43 (by decide) ?_
    refine n_ge X 128 d_R_each_45 (by decide) (by omega) (by omega) (fun h45 => ?_) (fun h45 => ?_)
    · exact absurd h45 (by omega)
    · refine g_aload_n X 0 d_R_each_48 rfl rfl ?_
      refine q_has X d_R_each_49 ?_
      refine g_bipush X (v := nI 64) d_R_each_52 (by decide) ?_
      refine g_iload_n X 2 d_R_each_54 rfl rfl ?_
      refine n_mul X d_R_each_55 ?_
      refine g_iload X d_R_each_56 rfl ?_
      refine n_add X d_R_each_58 ?_
      refine a_has X (by omega) d_R_each_59 ?_
      refine z_eq X 122 d_R_each_60 (by decide) (fun h60 => ?_) (fun h60 => ?_)
      · refine g_iinc X d_R_each_122 rfl (nI_1 _) (by decide) ?_
        refine g_goto X 41 d_R_each_125 (by decide) ?_
        exact g_sb (ih (i + 1) _ (by omega) (g_fl (wf := fun z => (rl δ b th wd hg s z)) (lf := fun z => [(0, .ref (b 0)), (1, .int (nI to)), (2, .int (nI a)), (3, .int (nI c)), (4, .int (nI k))]) (F := epj s a c k) (by simp [epj, h60]) hx)) ⟨rfl, rfl, rfl, rfl, rfl, rfl, trivial⟩
      · refine g_aload_n X 0 d_R_each_63 rfl rfl ?_
        refine q_has X d_R_each_64 ?_
        refine g_bipush X (v := nI 64) d_R_each_67 (by decide) ?_
        refine g_iload_n X 3 d_R_each_69 rfl rfl ?_
        refine n_mul X d_R_each_70 ?_
        refine g_iload X d_R_each_71 rfl ?_
        refine n_add X d_R_each_73 ?_
        refine a_has X (by omega) d_R_each_74 ?_
        refine z_eq X 122 d_R_each_75 (by decide) (fun h75 => ?_) (fun h75 => ?_)
        · refine g_iinc X d_R_each_122 rfl (nI_1 _) (by decide) ?_
          refine g_goto X 41 d_R_each_125 (by decide) ?_
          exact g_sb (ih (i + 1) _ (by omega) (g_fl (wf := fun z => (rl δ b th wd hg s z)) (lf := fun z => [(0, .ref (b 0)), (1, .int (nI to)), (2, .int (nI a)), (3, .int (nI c)), (4, .int (nI k))]) (F := epj s a c k) (by simp [epj, h60, h75]) hx)) ⟨rfl, rfl, rfl, rfl, rfl, rfl, trivial⟩
        · refine g_aload_n X 0 d_R_each_78 rfl rfl ?_
          refine g_iload X d_R_each_79 rfl ?_
          refine g_bipush X (v := nI 8) d_R_each_81 (by decide) ?_
          refine n_div X (by omega) (by decide) (by decide) d_R_each_83 ?_
          refine g_iload X d_R_each_84 rfl ?_
          refine g_bipush X (v := nI 8) d_R_each_86 (by decide) ?_
          refine n_rem X (by omega) (by decide) (by decide) d_R_each_88 ?_
          refine g_aload_n X 0 d_R_each_89 rfl rfl ?_
          refine g_iload X d_R_each_90 rfl ?_
          refine g_aload_n X 0 d_R_each_92 rfl rfl ?_
          refine q_value X d_R_each_93 ?_
          refine g_bipush X (v := nI 64) d_R_each_96 (by decide) ?_
          refine g_iload_n X 2 d_R_each_98 rfl rfl ?_
          refine n_mul X d_R_each_99 ?_
          refine g_iload X d_R_each_100 rfl ?_
          refine n_add X d_R_each_102 ?_
          refine a_value X (by omega) d_R_each_103 ?_
          refine g_aload_n X 0 d_R_each_104 rfl rfl ?_
          refine q_value X d_R_each_105 ?_
          refine g_bipush X (v := nI 64) d_R_each_108 (by decide) ?_
          refine g_iload_n X 3 d_R_each_110 rfl rfl ?_
          refine n_mul X d_R_each_111 ?_
          refine g_iload X d_R_each_112 rfl ?_
          refine n_add X d_R_each_114 ?_
          refine a_value X (by omega) d_R_each_115 ?_
          refine g_VN1 X v_R_68 (q0 := 0) rfl (ci := 2) rfl (c_R_product htr hi hk) d_R_each_116 rfl ?_ ?_
          · exact ⟨Nat.le_of_ble_eq_true rfl, Nat.le_of_ble_eq_true rfl, Nat.le_of_ble_eq_true rfl, Nat.le_of_ble_eq_true rfl⟩
          refine g_VN1 X v_R_75 (q0 := 0) rfl (ci := 2) rfl (c_R_make htr hi (by omega) (by omega)) d_R_each_119 rfl ?_ ?_
          · exact ⟨Nat.le_of_ble_eq_true rfl, Nat.le_of_ble_eq_true rfl, Nat.le_of_ble_eq_true rfl, Nat.le_of_ble_eq_true rfl⟩
          refine g_iinc X d_R_each_122 rfl (nI_1 _) (by decide) ?_
          refine g_goto X 41 d_R_each_125 (by decide) ?_
          exact g_sb (ih (i + 1) _ (by omega) (g_fl (wf := fun z => (rl δ b th wd hg s z)) (lf := fun z => [(0, .ref (b 0)), (1, .int (nI to)), (2, .int (nI a)), (3, .int (nI c)), (4, .int (nI k))]) (F := epj s a c k) (by simp [epj, h60, h75]) hx)) ⟨rfl, rfl, rfl, rfl, rfl, rfl, trivial⟩
set_option maxHeartbeats 4000000 in
set_option maxRecDepth 100000 in
theorem c_R_each {l : Launch} (htr : l.stackTraces = false) {δ : EX} {b : Nat → Nat} (hi : In7 b) {th wd hg : Nat} {s : SS} {w : WS} {to a c k : Nat} (hto : to < 6) (ha : a < 6) (hc : c < 6) (hk : k < 4) (h8 : ∀ r, r < 6 → s.1 r ≤ 8 ∧ s.2.1 r ≤ 8) (h : s.1 a = s.1 c ∧ s.2.1 a = s.2.1 c) : CT l y_R_each cw_R_each (RM 2) δ (Br b) (rl δ b th wd hg s w) [.ref (b 0), .int (nI to), .int (nI a), .int (nI c), .int (nI k)] (FN δ b (s.2.1 a) (s.1 a) s (epS s a c k (bgS w)) to (nI k)) := by
  refine CT.ofN (lv := [(0, .ref (b 0)), (1, .int (nI to)), (2, .int (nI a)), (3, .int (nI c)), (4, .int (nI k))]) (Or.inl ⟨rfl, rfl⟩) (by decide) htr rfl (Nat.le_of_ble_eq_true rfl) (fun κ hl X => ?_)
  subst hl
  refine g_aload_n X 0 d_R_each_0 rfl rfl ?_
  refine g_aload_n X 0 d_R_each_1 rfl rfl ?_
  refine g_iload_n X 1 d_R_each_2 rfl rfl ?_
  refine g_iload_n X 2 d_R_each_3 rfl rfl ?_
  refine g_iload_n X 3 d_R_each_4 rfl rfl ?_
  refine g_iload X d_R_each_5 rfl ?_
  refine g_VP X KOk.n v_R_97 (q0 := 0) rfl (ci := 2) rfl (c_R_pair htr hto ha hc hk h8 h) d_R_each_7 rfl ?_ ?_
  · exact ⟨Nat.le_of_ble_eq_true rfl, Nat.le_of_ble_eq_true rfl, Nat.le_of_ble_eq_true rfl, Nat.le_of_ble_eq_true rfl⟩
  refine p_thrown X hi d_R_each_10 ?_
  refine g_aload_n X 0 d_R_each_13 rfl rfl ?_
  refine q_thrown X d_R_each_14 ?_
  refine g_if_le X 22 d_R_each_17 (by decide) (fun _ => ?_) (fun q => absurd q (by decide))
  refine g_aload_n X 0 d_R_each_22 rfl rfl ?_
  refine g_aload_n X 0 d_R_each_23 rfl rfl ?_
  refine q_rows X d_R_each_24 ?_
  refine g_iload_n X 2 d_R_each_27 rfl rfl ?_
  refine a_rows X (by omega) d_R_each_28 ?_
  refine g_aload_n X 0 d_R_each_29 rfl rfl ?_
  refine q_columns X d_R_each_30 ?_
  refine g_iload_n X 2 d_R_each_33 rfl rfl ?_
  refine a_columns X (by omega) d_R_each_34 ?_
  refine g_VN1 X v_R_82 (q0 := 0) rfl (ci := 2) rfl (c_R_begin htr hi) d_R_each_35 rfl ?_ ?_
  · exact ⟨Nat.le_of_ble_eq_true rfl, Nat.le_of_ble_eq_true rfl, Nat.le_of_ble_eq_true rfl, Nat.le_of_ble_eq_true rfl⟩
  refine g_iconst X (v := nI 0) d_R_each_38 (by decide) ?_
  refine g_istore X d_R_each_39 (by decide) ?_
  refine g_sb (l_R_each X htr hi hto ha hc hk 64 0 (bgS w) (by omega) ?_) ⟨rfl, rfl, rfl, rfl, rfl, rfl, trivial⟩
  change G κ _ δ _ _ 0 0 (rl δ b _ _ _ s (epS s a c k (bgS w))) _ _ _
  refine g_aload_n X 0 d_R_each_128 rfl rfl ?_
  refine g_aload_n X 0 d_R_each_129 rfl rfl ?_
  refine q_far X d_R_each_130 ?_
  refine z_eq X 140 d_R_each_133 (by decide) (fun h133 => ?_) (fun h133 => ?_)
  · refine g_iconst X (v := nI 0) d_R_each_140 (by decide) ?_
    refine p_thrown X hi d_R_each_141 ?_
    refine g_aload_n X 0 d_R_each_144 rfl rfl ?_
    refine q_far X d_R_each_145 ?_
    refine z_eq X 155 d_R_each_148 (by decide) (fun _ => ?_) (fun q => absurd ((h133).symm.trans q) (by decide))
    refine g_aload_n X 0 d_R_each_155 rfl rfl ?_
    refine g_iload_n X 1 d_R_each_156 rfl rfl ?_
    refine g_iload X d_R_each_157 rfl ?_
    refine g_VN1 X v_R_93 (q0 := 0) rfl (ci := 2) rfl (c_R_finish htr hi hto) d_R_each_159 rfl ?_ ?_
    · exact ⟨Nat.le_of_ble_eq_true rfl, Nat.le_of_ble_eq_true rfl, Nat.le_of_ble_eq_true rfl, Nat.le_of_ble_eq_true rfl⟩
    exact g_iret X KOk.n d_R_each_162 (Or.inr ⟨h133, rfl, rfl⟩)
  · refine g_iconst X (v := nI 3) d_R_each_136 (by decide) ?_
    refine g_goto X 141 d_R_each_137 (by decide) ?_
    refine p_thrown X hi d_R_each_141 ?_
    refine g_aload_n X 0 d_R_each_144 rfl rfl ?_
    refine q_far X d_R_each_145 ?_
    refine z_eq X 155 d_R_each_148 (by decide) (fun q => absurd ((h133).symm.trans q) (by decide)) (fun _ => ?_)
    refine g_iconst X (v := nI 0) d_R_each_151 (by decide) ?_
    refine g_goto X 162 d_R_each_152 (by decide) ?_
    exact g_iret X KOk.n d_R_each_162 (Or.inl ⟨h133, rfl, rfl⟩)
set_option maxHeartbeats 4000000 in
set_option maxRecDepth 100000 in
theorem c_R_each_x2 {l : Launch} (htr : l.stackTraces = false) {δ : EX} {b : Nat → Nat} (hi : In7 b) {th wd hg : Nat} {s : SS} {w : WS} {to a c k : Nat} (hto : to < 6) (ha : a < 6) (hc : c < 6) (hk : k < 4) (h8 : ∀ r, r < 6 → s.1 r ≤ 8 ∧ s.2.1 r ≤ 8) (h : ¬ (s.1 a = s.1 c ∧ s.2.1 a = s.2.1 c)) : CTN l y_R_each cw_R_each (RM 2) δ (Br b) (rl δ b th wd hg s w) [.ref (b 0), .int (nI to), .int (nI a), .int (nI c), .int (nI k)] (some (.int 0)) (rl δ b 2 wd hg s w) := by
  refine CT.ofN (lv := [(0, .ref (b 0)), (1, .int (nI to)), (2, .int (nI a)), (3, .int (nI c)), (4, .int (nI k))]) (Or.inl ⟨rfl, rfl⟩) (by decide) htr rfl (Nat.le_of_ble_eq_true rfl) (fun κ hl X => ?_)
  subst hl
  refine g_aload_n X 0 d_R_each_0 rfl rfl ?_
  refine g_aload_n X 0 d_R_each_1 rfl rfl ?_
  refine g_iload_n X 1 d_R_each_2 rfl rfl ?_
  refine g_iload_n X 2 d_R_each_3 rfl rfl ?_
  refine g_iload_n X 3 d_R_each_4 rfl rfl ?_
  refine g_iload X d_R_each_5 rfl ?_
  refine g_VP X KOk.n v_R_97 (q0 := 0) rfl (ci := 2) rfl (c_R_pair_x2 htr hto ha hc hk h8 h) d_R_each_7 rfl ?_ ?_
  · exact ⟨Nat.le_of_ble_eq_true rfl, Nat.le_of_ble_eq_true rfl, Nat.le_of_ble_eq_true rfl, Nat.le_of_ble_eq_true rfl⟩
  refine p_thrown X hi d_R_each_10 ?_
  refine g_aload_n X 0 d_R_each_13 rfl rfl ?_
  refine q_thrown X d_R_each_14 ?_
  refine g_if_le X 22 d_R_each_17 (by decide) (fun q => absurd q (by decide)) (fun _ => ?_)
  refine g_iconst X (v := nI 0) d_R_each_20 (by decide) ?_
  exact g_iret X KOk.n d_R_each_21 ⟨rfl, rfl⟩
set_option maxHeartbeats 4000000 in
set_option maxRecDepth 100000 in
theorem c_R_each_x1 {l : Launch} (htr : l.stackTraces = false) {δ : EX} {b : Nat → Nat} (hi : In7 b) {th wd hg : Nat} {s : SS} {w : WS} {x1 x2 x3 x4 : Int32} (h : bR x1 ∨ bR x2 ∨ bR x3 ∨ bH 3 x4) : CTN l y_R_each cw_R_each (RM 2) δ (Br b) (rl δ b th wd hg s w) [.ref (b 0), .int x1, .int x2, .int x3, .int x4] (some (.int 0)) (rl δ b 1 wd hg s w) := by
  refine CT.ofN (lv := [(0, .ref (b 0)), (1, .int x1), (2, .int x2), (3, .int x3), (4, .int x4)]) (Or.inl ⟨rfl, rfl⟩) (by decide) htr rfl (Nat.le_of_ble_eq_true rfl) (fun κ hl X => ?_)
  subst hl
  refine g_aload_n X 0 d_R_each_0 rfl rfl ?_
  refine g_aload_n X 0 d_R_each_1 rfl rfl ?_
  refine g_iload_n X 1 d_R_each_2 rfl rfl ?_
  refine g_iload_n X 2 d_R_each_3 rfl rfl ?_
  refine g_iload_n X 3 d_R_each_4 rfl rfl ?_
  refine g_iload X d_R_each_5 rfl ?_
  refine g_VP X KOk.n v_R_97 (q0 := 0) rfl (ci := 2) rfl (c_R_pair_x1 htr h) d_R_each_7 rfl ?_ ?_
  · exact ⟨Nat.le_of_ble_eq_true rfl, Nat.le_of_ble_eq_true rfl, Nat.le_of_ble_eq_true rfl, Nat.le_of_ble_eq_true rfl⟩
  refine p_thrown X hi d_R_each_10 ?_
  refine g_aload_n X 0 d_R_each_13 rfl rfl ?_
  refine q_thrown X d_R_each_14 ?_
  refine g_if_le X 22 d_R_each_17 (by decide) (fun q => absurd q (by decide)) (fun _ => ?_)
  refine g_iconst X (v := nI 0) d_R_each_20 (by decide) ?_
  exact g_iret X KOk.n d_R_each_21 ⟨rfl, rfl⟩
def tpj (s : SS) (a p : Nat) (w : WS) : WS := if s.2.2.1 (64 * a + p) = true then mkS w (8 * (p % 8) + p / 8) (s.2.2.2 (64 * a + p)) else w
def tpS (s : SS) (a : Nat) (w : WS) : WS := fl (tpj s a) 0 64 w
set_option maxHeartbeats 4000000 in
set_option maxRecDepth 100000 in
theorem l_R_transpose {κ : KX} {δ : EX} {b : Nat → Nat} {th wd hg : Nat} {P : OC → va_W → Prop} (X : XO κ R_R b_R_transpose 4 (some .int) δ (RM 2) (Br b) []) (htr : (xl κ).stackTraces = false) (hi : In7 b) {s : SS} {to a : Nat} (hto : to < 6) (ha : a < 6) : ∀ (n i : Nat) (w : WS), i + n = 64 → G κ 4 δ (Kn κ (Br b)) (Qe κ δ (Br b) P) 0 0 (rl δ b th wd hg s (fl (tpj s a) i n w)) [(0, .ref (b 0)), (1, .int (nI to)), (2, .int (nI a))] [] 99 → G κ 4 δ (Kn κ (Br b)) (Qe κ δ (Br b) P) 0 0 (rl δ b th wd hg s w) [(0, .ref (b 0)), (1, .int (nI to)), (2, .int (nI a)), (3, .int (nI (i)))] [] 50 := by
  intro n
  induction n with
  | zero =>
    intro i w h hx
    refine g_iload_n X 3 d_R_transpose_50 rfl rfl ?_
    refine g_bipush X (v := nI 64) d_R_transpose_51 (by decide) ?_
    refine n_ge X 99 d_R_transpose_53 (by decide) (by omega) (by omega) (fun h53 => ?_) (fun h53 => ?_)
    · exact g_sb hx ⟨rfl, rfl, rfl, trivial⟩
    · exact absurd h53 (by omega)
  | succ n ih =>
    intro i w h hx
    refine g_iload_n X 3 d_R_transpose_50 rfl rfl ?_
    refine g_bipush X (v := nI 64) d_R_transpose_51 (by decide) ?_
    refine n_ge X 99 d_R_transpose_53 (by decide) (by omega) (by omega) (fun h53 => ?_) (fun h53 => ?_)
    · exact absurd h53 (by omega)
    · refine g_aload_n X 0 d_R_transpose_56 rfl rfl ?_
      refine q_has X d_R_transpose_57 ?_
      refine g_bipush X (v := nI 64) d_R_transpose_60 (by decide) ?_
      refine g_iload_n X 2 d_R_transpose_62 rfl rfl ?_
      refine n_mul X d_R_transpose_63 ?_
      refine g_iload_n X 3 d_R_transpose_64 rfl rfl ?_
      refine n_add X d_R_transpose_65 ?_
      refine a_has X (by omega) d_R_transpose_66 ?_
      refine z_eq X 93 d_R_transpose_67 (by decide) (fun h67 => ?_) (fun h67 => ?_)
      · refine g_iinc X d_R_transpose_93 rfl (nI_1 _) (by decide) ?_
        refine g_goto X 50 d_R_transpose_96 (by decide) ?_
        exact g_sb (ih (i + 1) _ (by omega) (g_fl (wf := fun z => (rl δ b th wd hg s z)) (lf := fun z => [(0, .ref (b 0)), (1, .int (nI to)), (2, .int (nI a))]) (F := tpj s a) (by simp [tpj, h67]) hx)) ⟨rfl, rfl, rfl, rfl, trivial⟩
      · refine g_aload_n X 0 d_R_transpose_70 rfl rfl ?_
        refine g_iload_n X 3 d_R_transpose_71 rfl rfl ?_
        refine g_bipush X (v := nI 8) d_R_transpose_72 (by decide) ?_
        refine n_rem X (by omega) (by decide) (by decide) d_R_transpose_74 ?_
        refine g_iload_n X 3 d_R_transpose_75 rfl rfl ?_
        refine g_bipush X (v := nI 8) d_R_transpose_76 (by decide) ?_
        refine n_div X (by omega) (by decide) (by decide) d_R_transpose_78 ?_
        refine g_aload_n X 0 d_R_transpose_79 rfl rfl ?_
        refine q_value X d_R_transpose_80 ?_
        refine g_bipush X (v := nI 64) d_R_transpose_83 (by decide) ?_
        refine g_iload_n X 2 d_R_transpose_85 rfl rfl ?_
        refine n_mul X d_R_transpose_86 ?_
        refine g_iload_n X 3 d_R_transpose_87 rfl rfl ?_
        refine n_add X d_R_transpose_88 ?_
        refine a_value X (by omega) d_R_transpose_89 ?_
        refine g_VN1 X v_R_75 (q0 := 0) rfl (ci := 2) rfl (c_R_make htr hi (by omega) (by omega)) d_R_transpose_90 rfl ?_ ?_
        · exact ⟨Nat.le_of_ble_eq_true rfl, Nat.le_of_ble_eq_true rfl, Nat.le_of_ble_eq_true rfl, Nat.le_of_ble_eq_true rfl⟩
        refine g_iinc X d_R_transpose_93 rfl (nI_1 _) (by decide) ?_
        refine g_goto X 50 d_R_transpose_96 (by decide) ?_
        exact g_sb (ih (i + 1) _ (by omega) (g_fl (wf := fun z => (rl δ b th wd hg s z)) (lf := fun z => [(0, .ref (b 0)), (1, .int (nI to)), (2, .int (nI a))]) (F := tpj s a) (by simp [tpj, h67]) hx)) ⟨rfl, rfl, rfl, rfl, trivial⟩
set_option maxHeartbeats 4000000 in
set_option maxRecDepth 100000 in
theorem c_R_transpose {l : Launch} (htr : l.stackTraces = false) {δ : EX} {b : Nat → Nat} (hi : In7 b) {th wd hg : Nat} {s : SS} {w : WS} {to a : Nat} (hto : to < 6) (ha : a < 6) : CTN l y_R_transpose cw_R_transpose (RM 2) δ (Br b) (rl δ b th wd hg s w) [.ref (b 0), .int (nI to), .int (nI a)] (some (.int (nI (en (fiH s (tpS s a (bgS w)) to (-1)).1 to)))) (rl δ b 0 (s.1 a) (s.2.1 a) (fiS s (tpS s a (bgS w)) (s.1 a) (s.2.1 a) to (-1)) (tpS s a (bgS w))) := by
  refine CT.ofN (lv := [(0, .ref (b 0)), (1, .int (nI to)), (2, .int (nI a))]) (Or.inl ⟨rfl, rfl⟩) (by decide) htr rfl (Nat.le_of_ble_eq_true rfl) (fun κ hl X => ?_)
  subst hl
  refine g_aload_n X 0 d_R_transpose_0 rfl rfl ?_
  refine g_iload_n X 1 d_R_transpose_1 rfl rfl ?_
  refine g_SP X KOk.n s_R_38 (c_R_isReg htr hto) d_R_transpose_2 rfl ?_ ?_
  · exact ⟨Nat.le_of_ble_eq_true rfl, Nat.le_of_ble_eq_true rfl, Nat.le_of_ble_eq_true rfl, Nat.le_of_ble_eq_true rfl⟩
  refine g_if_eq X 19 d_R_transpose_5 (by decide) (fun q => absurd q (by decide)) (fun _ => ?_)
  refine g_iload_n X 2 d_R_transpose_8 rfl rfl ?_
  refine g_SP X KOk.n s_R_38 (c_R_isReg htr ha) d_R_transpose_9 rfl ?_ ?_
  · exact ⟨Nat.le_of_ble_eq_true rfl, Nat.le_of_ble_eq_true rfl, Nat.le_of_ble_eq_true rfl, Nat.le_of_ble_eq_true rfl⟩
  refine g_if_eq X 19 d_R_transpose_12 (by decide) (fun q => absurd q (by decide)) (fun _ => ?_)
  refine g_iconst X (v := nI 0) d_R_transpose_15 (by decide) ?_
  refine g_goto X 20 d_R_transpose_16 (by decide) ?_
  refine p_thrown X hi d_R_transpose_20 ?_
  refine g_aload_n X 0 d_R_transpose_23 rfl rfl ?_
  refine q_thrown X d_R_transpose_24 ?_
  refine g_if_le X 32 d_R_transpose_27 (by decide) (fun _ => ?_) (fun q => absurd q (by decide))
  refine g_aload_n X 0 d_R_transpose_32 rfl rfl ?_
  refine g_aload_n X 0 d_R_transpose_33 rfl rfl ?_
  refine q_columns X d_R_transpose_34 ?_
  refine g_iload_n X 2 d_R_transpose_37 rfl rfl ?_
  refine a_columns X (by omega) d_R_transpose_38 ?_
  refine g_aload_n X 0 d_R_transpose_39 rfl rfl ?_
  refine q_rows X d_R_transpose_40 ?_
  refine g_iload_n X 2 d_R_transpose_43 rfl rfl ?_
  refine a_rows X (by omega) d_R_transpose_44 ?_
  refine g_VN1 X v_R_82 (q0 := 0) rfl (ci := 2) rfl (c_R_begin htr hi) d_R_transpose_45 rfl ?_ ?_
  · exact ⟨Nat.le_of_ble_eq_true rfl, Nat.le_of_ble_eq_true rfl, Nat.le_of_ble_eq_true rfl, Nat.le_of_ble_eq_true rfl⟩
  refine g_iconst X (v := nI 0) d_R_transpose_48 (by decide) ?_
  refine g_istore_n X 3 d_R_transpose_49 rfl (by decide) ?_
  refine g_sb (l_R_transpose X htr hi hto ha 64 0 (bgS w) (by omega) ?_) ⟨rfl, rfl, rfl, rfl, trivial⟩
  change G κ _ δ _ _ 0 0 (rl δ b _ _ _ s (tpS s a (bgS w))) _ _ _
  refine g_aload_n X 0 d_R_transpose_99 rfl rfl ?_
  refine g_iload_n X 1 d_R_transpose_100 rfl rfl ?_
  refine g_iconst X (v := (-1)) d_R_transpose_101 (by decide) ?_
  refine g_VN1 X v_R_93 (q0 := 0) rfl (ci := 2) rfl (c_R_finish htr hi hto) d_R_transpose_102 rfl ?_ ?_
  · exact ⟨Nat.le_of_ble_eq_true rfl, Nat.le_of_ble_eq_true rfl, Nat.le_of_ble_eq_true rfl, Nat.le_of_ble_eq_true rfl⟩
  exact g_iret X KOk.n d_R_transpose_105 ⟨rfl, rfl⟩
set_option maxHeartbeats 4000000 in
set_option maxRecDepth 100000 in
theorem c_R_transpose_x {l : Launch} (htr : l.stackTraces = false) {δ : EX} {b : Nat → Nat} (hi : In7 b) {th wd hg : Nat} {s : SS} {w : WS} {x1 x2 : Int32} (h : bR x1 ∨ bR x2) : CTN l y_R_transpose cw_R_transpose (RM 2) δ (Br b) (rl δ b th wd hg s w) [.ref (b 0), .int x1, .int x2] (some (.int 0)) (rl δ b 1 wd hg s w) := by
  refine CT.ofN (lv := [(0, .ref (b 0)), (1, .int x1), (2, .int x2)]) (Or.inl ⟨rfl, rfl⟩) (by decide) htr rfl (Nat.le_of_ble_eq_true rfl) (fun κ hl X => ?_)
  subst hl
  refine g_aload_n X 0 d_R_transpose_0 rfl rfl ?_
  refine g_iload_n X 1 d_R_transpose_1 rfl rfl ?_
  rcases bR_or x1 with q | ⟨r1, k1, rfl⟩
  · refine g_SP X KOk.n s_R_38 (c_R_isReg_x htr q) d_R_transpose_2 rfl ?_ ?_
    · exact ⟨Nat.le_of_ble_eq_true rfl, Nat.le_of_ble_eq_true rfl, Nat.le_of_ble_eq_true rfl, Nat.le_of_ble_eq_true rfl⟩
    refine g_if_eq X 19 d_R_transpose_5 (by decide) (fun _ => ?_) (fun q => absurd q (by decide))
    refine g_iconst X (v := nI 1) d_R_transpose_19 (by decide) ?_
    refine p_thrown X hi d_R_transpose_20 ?_
    refine g_aload_n X 0 d_R_transpose_23 rfl rfl ?_
    refine q_thrown X d_R_transpose_24 ?_
    refine g_if_le X 32 d_R_transpose_27 (by decide) (fun q => absurd q (by decide)) (fun _ => ?_)
    refine g_iconst X (v := nI 0) d_R_transpose_30 (by decide) ?_
    exact g_iret X KOk.n d_R_transpose_31 ⟨rfl, rfl⟩
  · refine g_SP X KOk.n s_R_38 (c_R_isReg htr k1) d_R_transpose_2 rfl ?_ ?_
    · exact ⟨Nat.le_of_ble_eq_true rfl, Nat.le_of_ble_eq_true rfl, Nat.le_of_ble_eq_true rfl, Nat.le_of_ble_eq_true rfl⟩
    refine g_if_eq X 19 d_R_transpose_5 (by decide) (fun q => absurd q (by decide)) (fun _ => ?_)
    refine g_iload_n X 2 d_R_transpose_8 rfl rfl ?_
    rcases bR_or x2 with q | ⟨r2, k2, rfl⟩
    · refine g_SP X KOk.n s_R_38 (c_R_isReg_x htr q) d_R_transpose_9 rfl ?_ ?_
      · exact ⟨Nat.le_of_ble_eq_true rfl, Nat.le_of_ble_eq_true rfl, Nat.le_of_ble_eq_true rfl, Nat.le_of_ble_eq_true rfl⟩
      refine g_if_eq X 19 d_R_transpose_12 (by decide) (fun _ => ?_) (fun q => absurd q (by decide))
      refine g_iconst X (v := nI 1) d_R_transpose_19 (by decide) ?_
      refine p_thrown X hi d_R_transpose_20 ?_
      refine g_aload_n X 0 d_R_transpose_23 rfl rfl ?_
      refine q_thrown X d_R_transpose_24 ?_
      refine g_if_le X 32 d_R_transpose_27 (by decide) (fun q => absurd q (by decide)) (fun _ => ?_)
      refine g_iconst X (v := nI 0) d_R_transpose_30 (by decide) ?_
      exact g_iret X KOk.n d_R_transpose_31 ⟨rfl, rfl⟩
    · refine g_SP X KOk.n s_R_38 (c_R_isReg htr k2) d_R_transpose_9 rfl ?_ ?_
      · exact ⟨Nat.le_of_ble_eq_true rfl, Nat.le_of_ble_eq_true rfl, Nat.le_of_ble_eq_true rfl, Nat.le_of_ble_eq_true rfl⟩
      refine g_if_eq X 19 d_R_transpose_12 (by decide) (fun q => absurd q (by decide)) (fun _ => ?_)
      exact absurd h (by
        rintro (q | q)
        · exact bR_no k1 q
        · exact bR_no k2 q)
set_option maxHeartbeats 4000000 in
set_option maxRecDepth 100000 in
theorem c_R_chosen {l : Launch} (htr : l.stackTraces = false) {δ : EX} {ws : va_W} {h i j : Nat} {v x : Int64} (hh : h ≤ 4) (hi : i < 8) (hj : j < 8) : CTP l y_R_chosen cw_R_chosen (RM 0) δ ws [.int (nI h), .int (nI i), .int (nI j), .long v, .long x] (.inr (some (.int (b2 (seB h i j v x))))) := by
  refine CT.ofP (lv := [(0, .int (nI h)), (1, .int (nI i)), (2, .int (nI j)), (3, .long v), (5, .long x)]) (Or.inl ⟨rfl, rfl⟩) (by decide) htr rfl (Nat.le_of_ble_eq_true rfl) (fun κ hl X => ?_)
  subst hl
  obtain rfl | rfl | rfl | rfl | rfl : h = 0 ∨ h = 1 ∨ h = 2 ∨ h = 3 ∨ h = 4 := by omega
  · refine g_iload_n X 0 d_R_chosen_0 rfl rfl ?_
    refine g_tin X (off := 31) 32 d_R_chosen_1 (by decide) (by decide) (by decide) (by decide) ?_
    refine g_lload_n X 3 d_R_chosen_32 rfl rfl ?_
    refine g_lload X d_R_chosen_33 rfl ?_
    refine l_ge X 43 d_R_chosen_35 d_R_chosen_36 (by decide) (fun h36 => ?_) (fun h36 => ?_)
    · refine g_iconst X (v := nI 0) d_R_chosen_43 (by decide) ?_
      exact g_zret X KOk.p (by decide) d_R_chosen_44 ⟨by simp [seB, b2, h36]; rfl, rfl⟩
    · refine g_iconst X (v := nI 1) d_R_chosen_39 (by decide) ?_
      refine g_goto X 44 d_R_chosen_40 (by decide) ?_
      exact g_zret X KOk.p (by decide) d_R_chosen_44 ⟨by simp [seB, b2, h36]; rfl, rfl⟩
  · refine g_iload_n X 0 d_R_chosen_0 rfl rfl ?_
    refine g_tin X (off := 44) 45 d_R_chosen_1 (by decide) (by decide) (by decide) (by decide) ?_
    refine g_lload_n X 3 d_R_chosen_45 rfl rfl ?_
    refine g_lload X d_R_chosen_46 rfl ?_
    refine l_le X 56 d_R_chosen_48 d_R_chosen_49 (by decide) (fun h49 => ?_) (fun h49 => ?_)
    · refine g_iconst X (v := nI 0) d_R_chosen_56 (by decide) ?_
      exact g_zret X KOk.p (by decide) d_R_chosen_57 ⟨by simp [seB, b2, h49]; rfl, rfl⟩
    · refine g_iconst X (v := nI 1) d_R_chosen_52 (by decide) ?_
      refine g_goto X 57 d_R_chosen_53 (by decide) ?_
      exact g_zret X KOk.p (by decide) d_R_chosen_57 ⟨by simp [seB, b2, h49]; rfl, rfl⟩
  · refine g_iload_n X 0 d_R_chosen_0 rfl rfl ?_
    refine g_tin X (off := 57) 58 d_R_chosen_1 (by decide) (by decide) (by decide) (by decide) ?_
    refine g_iload_n X 1 d_R_chosen_58 rfl rfl ?_
    refine g_iload_n X 2 d_R_chosen_59 rfl rfl ?_
    refine n_ge X 67 d_R_chosen_60 (by decide) (by omega) (by omega) (fun h60 => ?_) (fun h60 => ?_)
    · refine g_iconst X (v := nI 0) d_R_chosen_67 (by decide) ?_
      exact g_zret X KOk.p (by decide) d_R_chosen_68 ⟨by first | (simp [seB, b2, h60]; rfl) | (simp [seB, b2, Nat.not_lt.mpr h60]; rfl), rfl⟩
    · refine g_iconst X (v := nI 1) d_R_chosen_63 (by decide) ?_
      refine g_goto X 68 d_R_chosen_64 (by decide) ?_
      exact g_zret X KOk.p (by decide) d_R_chosen_68 ⟨by first | (simp [seB, b2, h60]; rfl) | (simp [seB, b2, Nat.not_lt.mpr h60]; rfl), rfl⟩
  · refine g_iload_n X 0 d_R_chosen_0 rfl rfl ?_
    refine g_tin X (off := 68) 69 d_R_chosen_1 (by decide) (by decide) (by decide) (by decide) ?_
    refine g_iload_n X 1 d_R_chosen_69 rfl rfl ?_
    refine g_iload_n X 2 d_R_chosen_70 rfl rfl ?_
    refine n_le X 78 d_R_chosen_71 (by decide) (by omega) (by omega) (fun h71 => ?_) (fun h71 => ?_)
    · refine g_iconst X (v := nI 0) d_R_chosen_78 (by decide) ?_
      exact g_zret X KOk.p (by decide) d_R_chosen_79 ⟨by first | (simp [seB, b2, h71]; rfl) | (simp [seB, b2, Nat.not_lt.mpr h71]; rfl), rfl⟩
    · refine g_iconst X (v := nI 1) d_R_chosen_74 (by decide) ?_
      refine g_goto X 79 d_R_chosen_75 (by decide) ?_
      exact g_zret X KOk.p (by decide) d_R_chosen_79 ⟨by first | (simp [seB, b2, h71]; rfl) | (simp [seB, b2, Nat.not_lt.mpr h71]; rfl), rfl⟩
  · refine g_iload_n X 0 d_R_chosen_0 rfl rfl ?_
    refine g_tout X 80 d_R_chosen_1 (by decide) (by decide) ?_
    refine g_iload_n X 1 d_R_chosen_80 rfl rfl ?_
    refine g_iload_n X 2 d_R_chosen_81 rfl rfl ?_
    refine n_ne X 89 d_R_chosen_82 (by decide) (by omega) (by omega) (fun h82 => ?_) (fun h82 => ?_)
    · refine g_iconst X (v := nI 0) d_R_chosen_89 (by decide) ?_
      exact g_zret X KOk.p (by decide) d_R_chosen_90 ⟨by simp [seB, b2, h82]; rfl, rfl⟩
    · refine g_iconst X (v := nI 1) d_R_chosen_85 (by decide) ?_
      refine g_goto X 90 d_R_chosen_86 (by decide) ?_
      exact g_zret X KOk.p (by decide) d_R_chosen_90 ⟨by simp [seB, b2, h82]; rfl, rfl⟩
def scj (s : SS) (a h : Nat) (x : Int64) (p : Nat) (w : WS) : WS := if s.2.2.1 (64 * a + p) = true then (if seB h (p / 8) (p % 8) (s.2.2.2 (64 * a + p)) x = true then mkS w (8 * (p / 8) + p % 8) (s.2.2.2 (64 * a + p)) else w) else w
def scS (s : SS) (a h : Nat) (x : Int64) (w : WS) : WS := fl (scj s a h x) 0 64 w
set_option maxHeartbeats 4000000 in
set_option maxRecDepth 100000 in
theorem l_R_select {κ : KX} {δ : EX} {b : Nat → Nat} {th wd hg : Nat} {P : OC → va_W → Prop} (X : XO κ R_R b_R_select 7 (some .int) δ (RM 2) (Br b) []) (htr : (xl κ).stackTraces = false) (hi : In7 b) {s : SS} {to a hw : Nat} (hto : to < 6) (ha : a < 6) (hh : hw ≤ 4) {x : Int64} : ∀ (n i : Nat) (w : WS), i + n = 64 → G κ 7 δ (Kn κ (Br b)) (Qe κ δ (Br b) P) 0 0 (rl δ b th wd hg s (fl (scj s a hw x) i n w)) [(0, .ref (b 0)), (1, .int (nI to)), (2, .int (nI a)), (3, .int (nI hw)), (4, .long x)] [] 145 → G κ 7 δ (Kn κ (Br b)) (Qe κ δ (Br b) P) 0 0 (rl δ b th wd hg s w) [(0, .ref (b 0)), (1, .int (nI to)), (2, .int (nI a)), (3, .int (nI hw)), (4, .long x), (6, .int (nI (i)))] [] 60 := by
  intro n
  induction n with
  | zero =>
    intro i w h hx
    refine g_iload X d_R_select_60 rfl ?_
    refine g_bipush X (v := nI 64) d_R_select_62 (by decide) ?_
    refine n_ge X 145 d_R_select_64 (by decide) (by omega) (by omega) (fun h64 => ?_) (fun h64 => ?_)
    · exact g_sb hx ⟨rfl, rfl, rfl, rfl, rfl, trivial⟩
    · exact absurd h64 (by omega)
  | succ n ih =>
    intro i w h hx
    refine g_iload X d_R_select_60 rfl ?_
    refine g_bipush X (v := nI 64) d_R_select_62 (by decide) ?_
    refine n_ge X 145 d_R_select_64 (by decide) (by omega) (by omega) (fun h64 => ?_) (fun h64 => ?_)
    · exact absurd h64 (by omega)
    · refine g_aload_n X 0 d_R_select_67 rfl rfl ?_
      refine q_has X d_R_select_68 ?_
      refine g_bipush X (v := nI 64) d_R_select_71 (by decide) ?_
      refine g_iload_n X 2 d_R_select_73 rfl rfl ?_
      refine n_mul X d_R_select_74 ?_
      refine g_iload X d_R_select_75 rfl ?_
      refine n_add X d_R_select_77 ?_
      refine a_has X (by omega) d_R_select_78 ?_
      refine z_eq X 139 d_R_select_79 (by decide) (fun h79 => ?_) (fun h79 => ?_)
      · refine g_iinc X d_R_select_139 rfl (nI_1 _) (by decide) ?_
        refine g_goto X 60 d_R_select_142 (by decide) ?_
        exact g_sb (ih (i + 1) _ (by omega) (g_fl (wf := fun z => (rl δ b th wd hg s z)) (lf := fun z => [(0, .ref (b 0)), (1, .int (nI to)), (2, .int (nI a)), (3, .int (nI hw)), (4, .long x)]) (F := scj s a hw x) (by simp [scj, h79]) hx)) ⟨rfl, rfl, rfl, rfl, rfl, rfl, trivial⟩
      · refine g_iload_n X 3 d_R_select_82 rfl rfl ?_
        refine g_iload X d_R_select_83 rfl ?_
        refine g_bipush X (v := nI 8) d_R_select_85 (by decide) ?_
        refine n_div X (by omega) (by decide) (by decide) d_R_select_87 ?_
        refine g_iload X d_R_select_88 rfl ?_
        refine g_bipush X (v := nI 8) d_R_select_90 (by decide) ?_
        refine n_rem X (by omega) (by decide) (by decide) d_R_select_92 ?_
        refine g_aload_n X 0 d_R_select_93 rfl rfl ?_
        refine q_value X d_R_select_94 ?_
        refine g_bipush X (v := nI 64) d_R_select_97 (by decide) ?_
        refine g_iload_n X 2 d_R_select_99 rfl rfl ?_
        refine n_mul X d_R_select_100 ?_
        refine g_iload X d_R_select_101 rfl ?_
        refine n_add X d_R_select_103 ?_
        refine a_value X (by omega) d_R_select_104 ?_
        refine g_lload X d_R_select_105 rfl ?_
        refine g_SP X KOk.n s_R_101 (c_R_chosen htr hh (by omega) (by omega)) d_R_select_107 rfl ?_ ?_
        · exact ⟨Nat.le_of_ble_eq_true rfl, Nat.le_of_ble_eq_true rfl, Nat.le_of_ble_eq_true rfl, Nat.le_of_ble_eq_true rfl⟩
        refine z_eq X 139 d_R_select_110 (by decide) (fun h110 => ?_) (fun h110 => ?_)
        · refine g_iinc X d_R_select_139 rfl (nI_1 _) (by decide) ?_
          refine g_goto X 60 d_R_select_142 (by decide) ?_
          exact g_sb (ih (i + 1) _ (by omega) (g_fl (wf := fun z => (rl δ b th wd hg s z)) (lf := fun z => [(0, .ref (b 0)), (1, .int (nI to)), (2, .int (nI a)), (3, .int (nI hw)), (4, .long x)]) (F := scj s a hw x) (by simp [scj, h79, h110]) hx)) ⟨rfl, rfl, rfl, rfl, rfl, rfl, trivial⟩
        · refine g_aload_n X 0 d_R_select_113 rfl rfl ?_
          refine g_iload X d_R_select_114 rfl ?_
          refine g_bipush X (v := nI 8) d_R_select_116 (by decide) ?_
          refine n_div X (by omega) (by decide) (by decide) d_R_select_118 ?_
          refine g_iload X d_R_select_119 rfl ?_
          refine g_bipush X (v := nI 8) d_R_select_121 (by decide) ?_
          refine n_rem X (by omega) (by decide) (by decide) d_R_select_123 ?_
          refine g_aload_n X 0 d_R_select_124 rfl rfl ?_
          refine q_value X d_R_select_125 ?_
          refine g_bipush X (v := nI 64) d_R_select_128 (by decide) ?_
          refine g_iload_n X 2 d_R_select_130 rfl rfl ?_
          refine n_mul X d_R_select_131 ?_
          refine g_iload X d_R_select_132 rfl ?_
          refine n_add X d_R_select_134 ?_
          refine a_value X (by omega) d_R_select_135 ?_
          refine g_VN1 X v_R_75 (q0 := 0) rfl (ci := 2) rfl (c_R_make htr hi (by omega) (by omega)) d_R_select_136 rfl ?_ ?_
          · exact ⟨Nat.le_of_ble_eq_true rfl, Nat.le_of_ble_eq_true rfl, Nat.le_of_ble_eq_true rfl, Nat.le_of_ble_eq_true rfl⟩
          refine g_iinc X d_R_select_139 rfl (nI_1 _) (by decide) ?_
          refine g_goto X 60 d_R_select_142 (by decide) ?_
          exact g_sb (ih (i + 1) _ (by omega) (g_fl (wf := fun z => (rl δ b th wd hg s z)) (lf := fun z => [(0, .ref (b 0)), (1, .int (nI to)), (2, .int (nI a)), (3, .int (nI hw)), (4, .long x)]) (F := scj s a hw x) (by simp [scj, h79, h110]) hx)) ⟨rfl, rfl, rfl, rfl, rfl, rfl, trivial⟩
set_option maxHeartbeats 4000000 in
set_option maxRecDepth 100000 in
theorem c_R_select {l : Launch} (htr : l.stackTraces = false) {δ : EX} {b : Nat → Nat} (hi : In7 b) {th wd hg : Nat} {s : SS} {w : WS} {to a hw : Nat} (hto : to < 6) (ha : a < 6) (hh : hw ≤ 4) {x : Int64} : CTN l y_R_select cw_R_select (RM 2) δ (Br b) (rl δ b th wd hg s w) [.ref (b 0), .int (nI to), .int (nI a), .int (nI hw), .long x] (some (.int (nI (en (fiH s (scS s a hw x (bgS w)) to (-1)).1 to)))) (rl δ b 0 (s.2.1 a) (s.1 a) (fiS s (scS s a hw x (bgS w)) (s.2.1 a) (s.1 a) to (-1)) (scS s a hw x (bgS w))) := by
  refine CT.ofN (lv := [(0, .ref (b 0)), (1, .int (nI to)), (2, .int (nI a)), (3, .int (nI hw)), (4, .long x)]) (Or.inl ⟨rfl, rfl⟩) (by decide) htr rfl (Nat.le_of_ble_eq_true rfl) (fun κ hl X => ?_)
  subst hl
  refine g_aload_n X 0 d_R_select_0 rfl rfl ?_
  refine g_iload_n X 1 d_R_select_1 rfl rfl ?_
  refine g_SP X KOk.n s_R_38 (c_R_isReg htr hto) d_R_select_2 rfl ?_ ?_
  · exact ⟨Nat.le_of_ble_eq_true rfl, Nat.le_of_ble_eq_true rfl, Nat.le_of_ble_eq_true rfl, Nat.le_of_ble_eq_true rfl⟩
  refine g_if_eq X 28 d_R_select_5 (by decide) (fun q => absurd q (by decide)) (fun _ => ?_)
  refine g_iload_n X 2 d_R_select_8 rfl rfl ?_
  refine g_SP X KOk.n s_R_38 (c_R_isReg htr ha) d_R_select_9 rfl ?_ ?_
  · exact ⟨Nat.le_of_ble_eq_true rfl, Nat.le_of_ble_eq_true rfl, Nat.le_of_ble_eq_true rfl, Nat.le_of_ble_eq_true rfl⟩
  refine g_if_eq X 28 d_R_select_12 (by decide) (fun q => absurd q (by decide)) (fun _ => ?_)
  refine g_iload_n X 3 d_R_select_15 rfl rfl ?_
  refine n_zl X 28 d_R_select_16 (by decide) (by omega) ?_
  refine g_iload_n X 3 d_R_select_19 rfl rfl ?_
  refine g_iconst X (v := nI 4) d_R_select_20 (by decide) ?_
  refine n_gt X 28 d_R_select_21 (by decide) (by omega) (by omega) (fun h21 => ?_) (fun h21 => ?_)
  · exact absurd h21 (by omega)
  · refine g_iconst X (v := nI 0) d_R_select_24 (by decide) ?_
    refine g_goto X 29 d_R_select_25 (by decide) ?_
    refine p_thrown X hi d_R_select_29 ?_
    refine g_aload_n X 0 d_R_select_32 rfl rfl ?_
    refine q_thrown X d_R_select_33 ?_
    refine g_if_le X 41 d_R_select_36 (by decide) (fun _ => ?_) (fun q => absurd q (by decide))
    refine g_aload_n X 0 d_R_select_41 rfl rfl ?_
    refine g_aload_n X 0 d_R_select_42 rfl rfl ?_
    refine q_rows X d_R_select_43 ?_
    refine g_iload_n X 2 d_R_select_46 rfl rfl ?_
    refine a_rows X (by omega) d_R_select_47 ?_
    refine g_aload_n X 0 d_R_select_48 rfl rfl ?_
    refine q_columns X d_R_select_49 ?_
    refine g_iload_n X 2 d_R_select_52 rfl rfl ?_
    refine a_columns X (by omega) d_R_select_53 ?_
    refine g_VN1 X v_R_82 (q0 := 0) rfl (ci := 2) rfl (c_R_begin htr hi) d_R_select_54 rfl ?_ ?_
    · exact ⟨Nat.le_of_ble_eq_true rfl, Nat.le_of_ble_eq_true rfl, Nat.le_of_ble_eq_true rfl, Nat.le_of_ble_eq_true rfl⟩
    refine g_iconst X (v := nI 0) d_R_select_57 (by decide) ?_
    refine g_istore X d_R_select_58 (by decide) ?_
    refine g_sb (l_R_select X htr hi hto ha hh 64 0 (bgS w) (by omega) ?_) ⟨rfl, rfl, rfl, rfl, rfl, rfl, trivial⟩
    change G κ _ δ _ _ 0 0 (rl δ b _ _ _ s (scS s a hw x (bgS w))) _ _ _
    refine g_aload_n X 0 d_R_select_145 rfl rfl ?_
    refine g_iload_n X 1 d_R_select_146 rfl rfl ?_
    refine g_iconst X (v := (-1)) d_R_select_147 (by decide) ?_
    refine g_VN1 X v_R_93 (q0 := 0) rfl (ci := 2) rfl (c_R_finish htr hi hto) d_R_select_148 rfl ?_ ?_
    · exact ⟨Nat.le_of_ble_eq_true rfl, Nat.le_of_ble_eq_true rfl, Nat.le_of_ble_eq_true rfl, Nat.le_of_ble_eq_true rfl⟩
    exact g_iret X KOk.n d_R_select_151 ⟨rfl, rfl⟩
set_option maxHeartbeats 4000000 in
set_option maxRecDepth 100000 in
theorem c_R_select_x {l : Launch} (htr : l.stackTraces = false) {δ : EX} {b : Nat → Nat} (hi : In7 b) {th wd hg : Nat} {s : SS} {w : WS} {x1 x2 x3 : Int32} {x : Int64} (h : bR x1 ∨ bR x2 ∨ bH 4 x3) : CTN l y_R_select cw_R_select (RM 2) δ (Br b) (rl δ b th wd hg s w) [.ref (b 0), .int x1, .int x2, .int x3, .long x] (some (.int 0)) (rl δ b 1 wd hg s w) := by
  refine CT.ofN (lv := [(0, .ref (b 0)), (1, .int x1), (2, .int x2), (3, .int x3), (4, .long x)]) (Or.inl ⟨rfl, rfl⟩) (by decide) htr rfl (Nat.le_of_ble_eq_true rfl) (fun κ hl X => ?_)
  subst hl
  refine g_aload_n X 0 d_R_select_0 rfl rfl ?_
  refine g_iload_n X 1 d_R_select_1 rfl rfl ?_
  rcases bR_or x1 with q | ⟨r1, k1, rfl⟩
  · refine g_SP X KOk.n s_R_38 (c_R_isReg_x htr q) d_R_select_2 rfl ?_ ?_
    · exact ⟨Nat.le_of_ble_eq_true rfl, Nat.le_of_ble_eq_true rfl, Nat.le_of_ble_eq_true rfl, Nat.le_of_ble_eq_true rfl⟩
    refine g_if_eq X 28 d_R_select_5 (by decide) (fun _ => ?_) (fun q => absurd q (by decide))
    refine g_iconst X (v := nI 1) d_R_select_28 (by decide) ?_
    refine p_thrown X hi d_R_select_29 ?_
    refine g_aload_n X 0 d_R_select_32 rfl rfl ?_
    refine q_thrown X d_R_select_33 ?_
    refine g_if_le X 41 d_R_select_36 (by decide) (fun q => absurd q (by decide)) (fun _ => ?_)
    refine g_iconst X (v := nI 0) d_R_select_39 (by decide) ?_
    exact g_iret X KOk.n d_R_select_40 ⟨rfl, rfl⟩
  · refine g_SP X KOk.n s_R_38 (c_R_isReg htr k1) d_R_select_2 rfl ?_ ?_
    · exact ⟨Nat.le_of_ble_eq_true rfl, Nat.le_of_ble_eq_true rfl, Nat.le_of_ble_eq_true rfl, Nat.le_of_ble_eq_true rfl⟩
    refine g_if_eq X 28 d_R_select_5 (by decide) (fun q => absurd q (by decide)) (fun _ => ?_)
    refine g_iload_n X 2 d_R_select_8 rfl rfl ?_
    rcases bR_or x2 with q | ⟨r2, k2, rfl⟩
    · refine g_SP X KOk.n s_R_38 (c_R_isReg_x htr q) d_R_select_9 rfl ?_ ?_
      · exact ⟨Nat.le_of_ble_eq_true rfl, Nat.le_of_ble_eq_true rfl, Nat.le_of_ble_eq_true rfl, Nat.le_of_ble_eq_true rfl⟩
      refine g_if_eq X 28 d_R_select_12 (by decide) (fun _ => ?_) (fun q => absurd q (by decide))
      refine g_iconst X (v := nI 1) d_R_select_28 (by decide) ?_
      refine p_thrown X hi d_R_select_29 ?_
      refine g_aload_n X 0 d_R_select_32 rfl rfl ?_
      refine q_thrown X d_R_select_33 ?_
      refine g_if_le X 41 d_R_select_36 (by decide) (fun q => absurd q (by decide)) (fun _ => ?_)
      refine g_iconst X (v := nI 0) d_R_select_39 (by decide) ?_
      exact g_iret X KOk.n d_R_select_40 ⟨rfl, rfl⟩
    · refine g_SP X KOk.n s_R_38 (c_R_isReg htr k2) d_R_select_9 rfl ?_ ?_
      · exact ⟨Nat.le_of_ble_eq_true rfl, Nat.le_of_ble_eq_true rfl, Nat.le_of_ble_eq_true rfl, Nat.le_of_ble_eq_true rfl⟩
      refine g_if_eq X 28 d_R_select_12 (by decide) (fun q => absurd q (by decide)) (fun _ => ?_)
      refine g_iload_n X 3 d_R_select_15 rfl rfl ?_
      refine g_if_lt X 28 d_R_select_16 (by decide) (fun h16 => ?_) (fun h16 => ?_)
      · refine g_iconst X (v := nI 1) d_R_select_28 (by decide) ?_
        refine p_thrown X hi d_R_select_29 ?_
        refine g_aload_n X 0 d_R_select_32 rfl rfl ?_
        refine q_thrown X d_R_select_33 ?_
        refine g_if_le X 41 d_R_select_36 (by decide) (fun q => absurd q (by decide)) (fun _ => ?_)
        refine g_iconst X (v := nI 0) d_R_select_39 (by decide) ?_
        exact g_iret X KOk.n d_R_select_40 ⟨rfl, rfl⟩
      · refine g_iload_n X 3 d_R_select_19 rfl rfl ?_
        refine g_iconst X (v := nI 4) d_R_select_20 (by decide) ?_
        refine g_icmp_gt X 28 d_R_select_21 (by decide) (fun h21 => ?_) (fun h21 => ?_)
        · refine g_iconst X (v := nI 1) d_R_select_28 (by decide) ?_
          refine p_thrown X hi d_R_select_29 ?_
          refine g_aload_n X 0 d_R_select_32 rfl rfl ?_
          refine q_thrown X d_R_select_33 ?_
          refine g_if_le X 41 d_R_select_36 (by decide) (fun q => absurd q (by decide)) (fun _ => ?_)
          refine g_iconst X (v := nI 0) d_R_select_39 (by decide) ?_
          exact g_iret X KOk.n d_R_select_40 ⟨rfl, rfl⟩
        · exact absurd h (by
            rintro (q | q | q | q)
            · exact bR_no k1 q
            · exact bR_no k2 q
            · exact h16 q
            · exact h21 q)
def rqj (s : SS) (a k p : Nat) (z : Bool × Int64 × Bool) : Bool × Int64 × Bool :=
  if z.2.2 = true then z else if s.2.2.1 (64 * a + p) = true then (true, if z.1 = true then su0 k z.2.1 (s.2.2.2 (64 * a + p)) else s.2.2.2 (64 * a + p), if z.1 = true then z.2.2 || !inR (su0 k z.2.1 (s.2.2.2 (64 * a + p))) else z.2.2) else z
theorem rd_far {s : SS} {a k : Nat} {z : Bool × Int64 × Bool} (h : z.2.2 = true) : ∀ n t, fl (rqj s a k) t n z = z
  | 0, _ => rfl
  | n + 1, t => by
    have e : rqj s a k t z = z := by unfold rqj; rw [if_pos h]
    show fl (rqj s a k) (t + 1) n (rqj s a k t z) = z
    rw [e]
    exact rd_far h n (t + 1)
def rqZ (s : SS) (a k : Nat) : Bool × Int64 × Bool := fl (rqj s a k) 0 64 (false, 0, false)
set_option maxHeartbeats 4000000 in
set_option maxRecDepth 100000 in
theorem l_R_reduce {κ : KX} {δ : EX} {b : Nat → Nat} {th wd hg : Nat} {P : OC → va_W → Prop} (X : XO κ R_R b_R_reduce 7 (some .long) δ (RM 2) (Br b) []) (htr : (xl κ).stackTraces = false) (hi : In7 b) {s : SS} {w : WS} {a k : Nat} (ha : a < 6) (hk : k < 4) : ∀ (n i : Nat) (z : Bool × Int64 × Bool), i + n = 64 → G κ 7 δ (Kn κ (Br b)) (Qe κ δ (Br b) P) 0 0 (rl δ b th wd hg s (((fl (rqj s a k) i n z)).2.2, w.2)) [(0, .ref (b 0)), (1, .int (nI a)), (2, .int (nI k)), (3, .int (b2 ((fl (rqj s a k) i n z)).1)), (4, .long ((fl (rqj s a k) i n z)).2.1)] [] 127 → G κ 7 δ (Kn κ (Br b)) (Qe κ δ (Br b) P) 0 0 (rl δ b th wd hg s ((z).2.2, w.2)) [(0, .ref (b 0)), (1, .int (nI a)), (2, .int (nI k)), (3, .int (b2 (z).1)), (4, .long (z).2.1), (6, .int (nI (64 * a + i)))] [] 60 := by
  intro n
  induction n with
  | zero =>
    intro i z h hx
    refine g_iload X d_R_reduce_60 rfl ?_
    refine g_bipush X (v := nI 64) d_R_reduce_62 (by decide) ?_
    refine g_iload_n X 1 d_R_reduce_64 rfl rfl ?_
    refine n_mul X d_R_reduce_65 ?_
    refine g_bipush X (v := nI 64) d_R_reduce_66 (by decide) ?_
    refine n_add X d_R_reduce_68 ?_
    refine n_ge X 127 d_R_reduce_69 (by decide) (by omega) (by omega) (fun h69 => ?_) (fun h69 => ?_)
    · exact g_sb hx ⟨rfl, rfl, rfl, rfl, rfl, trivial⟩
    · exact absurd h69 (by omega)
  | succ n ih =>
    intro i z h hx
    refine g_iload X d_R_reduce_60 rfl ?_
    refine g_bipush X (v := nI 64) d_R_reduce_62 (by decide) ?_
    refine g_iload_n X 1 d_R_reduce_64 rfl rfl ?_
    refine n_mul X d_R_reduce_65 ?_
    refine g_bipush X (v := nI 64) d_R_reduce_66 (by decide) ?_
    refine n_add X d_R_reduce_68 ?_
    refine n_ge X 127 d_R_reduce_69 (by decide) (by omega) (by omega) (fun h69 => ?_) (fun h69 => ?_)
    · exact absurd h69 (by omega)
    · refine g_aload_n X 0 d_R_reduce_72 rfl rfl ?_
      refine q_far X d_R_reduce_73 ?_
      refine z_ne X 127 d_R_reduce_76 (by decide) (fun h76 => ?_) (fun h76 => ?_)
      · rw [rd_far h76] at hx
        exact g_sb hx ⟨rfl, rfl, rfl, rfl, rfl, trivial⟩
      · refine g_aload_n X 0 d_R_reduce_79 rfl rfl ?_
        refine q_has X d_R_reduce_80 ?_
        refine g_iload X d_R_reduce_83 rfl ?_
        refine a_has X (by omega) d_R_reduce_85 ?_
        refine z_eq X 121 d_R_reduce_86 (by decide) (fun h86 => ?_) (fun h86 => ?_)
        · refine g_iinc X d_R_reduce_121 rfl (nI_1 _) (by decide) ?_
          refine g_goto X 60 d_R_reduce_124 (by decide) ?_
          exact g_sb (ih (i + 1) z (by omega) (g_fl (wf := fun z => (rl δ b th wd hg s ((z).2.2, w.2))) (lf := fun z => [(0, .ref (b 0)), (1, .int (nI a)), (2, .int (nI k)), (3, .int (b2 (z).1)), (4, .long (z).2.1)]) (F := rqj s a k) (by simp [rqj, show z.2.2 = false from h76, h86]) hx)) ⟨rfl, rfl, rfl, rfl, rfl, rfl, trivial⟩
        · refine g_iload_n X 3 d_R_reduce_89 rfl rfl ?_
          refine z_eq X 110 d_R_reduce_90 (by decide) (fun h90 => ?_) (fun h90 => ?_)
          · refine g_aload_n X 0 d_R_reduce_110 rfl rfl ?_
            refine q_value X d_R_reduce_111 ?_
            refine g_iload X d_R_reduce_114 rfl ?_
            refine a_value X (by omega) d_R_reduce_116 ?_
            refine g_lstore X d_R_reduce_117 (by decide) ?_
            refine g_iconst X (v := nI 1) d_R_reduce_119 (by decide) ?_
            refine g_istore_n X 3 d_R_reduce_120 rfl (by decide) ?_
            refine g_iinc X d_R_reduce_121 rfl (nI_1 _) (by decide) ?_
            refine g_goto X 60 d_R_reduce_124 (by decide) ?_
            exact g_sb (ih (i + 1) (true, (s.2.2.2 (64 * a + i)), z.2.2) (by omega) (g_fl (wf := fun z => (rl δ b th wd hg s ((z).2.2, w.2))) (lf := fun z => [(0, .ref (b 0)), (1, .int (nI a)), (2, .int (nI k)), (3, .int (b2 (z).1)), (4, .long (z).2.1)]) (F := rqj s a k) (by simp [rqj, show z.2.2 = false from h76, h86, h90]) hx)) ⟨rfl, rfl, rfl, rfl, rfl, rfl, trivial⟩
          · refine g_aload_n X 0 d_R_reduce_93 rfl rfl ?_
            refine g_iload_n X 2 d_R_reduce_94 rfl rfl ?_
            refine g_lload X d_R_reduce_95 rfl ?_
            refine g_aload_n X 0 d_R_reduce_97 rfl rfl ?_
            refine q_value X d_R_reduce_98 ?_
            refine g_iload X d_R_reduce_101 rfl ?_
            refine a_value X (by omega) d_R_reduce_103 ?_
            refine g_VN1 X v_R_72 (q0 := 0) rfl (ci := 2) rfl (c_R_sum htr hi hk) d_R_reduce_104 rfl ?_ ?_
            · exact ⟨Nat.le_of_ble_eq_true rfl, Nat.le_of_ble_eq_true rfl, Nat.le_of_ble_eq_true rfl, Nat.le_of_ble_eq_true rfl⟩
            refine g_goto X 117 d_R_reduce_107 (by decide) ?_
            refine g_lstore X d_R_reduce_117 (by decide) ?_
            refine g_iconst X (v := nI 1) d_R_reduce_119 (by decide) ?_
            refine g_istore_n X 3 d_R_reduce_120 rfl (by decide) ?_
            refine g_iinc X d_R_reduce_121 rfl (nI_1 _) (by decide) ?_
            refine g_goto X 60 d_R_reduce_124 (by decide) ?_
            exact g_sb (ih (i + 1) (true, su0 k z.2.1 (s.2.2.2 (64 * a + i)), z.2.2 || !inR (su0 k z.2.1 (s.2.2.2 (64 * a + i)))) (by omega) (g_fl (wf := fun z => (rl δ b th wd hg s ((z).2.2, w.2))) (lf := fun z => [(0, .ref (b 0)), (1, .int (nI a)), (2, .int (nI k)), (3, .int (b2 (z).1)), (4, .long (z).2.1)]) (F := rqj s a k) (by simp [rqj, show z.2.2 = false from h76, h86, h90]) hx)) ⟨rfl, rfl, rfl, rfl, rfl, rfl, trivial⟩
def RDP (δ : EX) (b : Nat → Nat) (wd hg : Nat) (s : SS) (w : WS) (a k : Nat) : OC → va_W → Prop := fun r ww => ((rqZ s a k).2.2 = true ∧ r = .inr (some (.long 0)) ∧ ww = rl δ b 3 wd hg s ((rqZ s a k).2.2, w.2)) ∨ ((rqZ s a k).2.2 = false ∧ r = .inr (some (.long (rqZ s a k).2.1)) ∧ ww = rl δ b 0 wd hg s ((rqZ s a k).2.2, w.2))
set_option maxHeartbeats 4000000 in
set_option maxRecDepth 100000 in
theorem c_R_reduce {l : Launch} (htr : l.stackTraces = false) {δ : EX} {b : Nat → Nat} (hi : In7 b) {th wd hg : Nat} {s : SS} {w : WS} {a k : Nat} (ha : a < 6) (hk : k < 4) (hn : ¬ en s.2.2.1 a = 0) : CT l y_R_reduce cw_R_reduce (RM 2) δ (Br b) (rl δ b th wd hg s w) [.ref (b 0), .int (nI a), .int (nI k)] (RDP δ b wd hg s w a k) := by
  refine CT.ofN (lv := [(0, .ref (b 0)), (1, .int (nI a)), (2, .int (nI k))]) (Or.inl ⟨rfl, rfl⟩) (by decide) htr rfl (Nat.le_of_ble_eq_true rfl) (fun κ hl X => ?_)
  subst hl
  refine g_aload_n X 0 d_R_reduce_0 rfl rfl ?_
  refine g_iload_n X 1 d_R_reduce_1 rfl rfl ?_
  refine g_SP X KOk.n s_R_38 (c_R_isReg htr ha) d_R_reduce_2 rfl ?_ ?_
  · exact ⟨Nat.le_of_ble_eq_true rfl, Nat.le_of_ble_eq_true rfl, Nat.le_of_ble_eq_true rfl, Nat.le_of_ble_eq_true rfl⟩
  refine g_if_eq X 15 d_R_reduce_5 (by decide) (fun q => absurd q (by decide)) (fun _ => ?_)
  refine g_iload_n X 2 d_R_reduce_8 rfl rfl ?_
  refine g_SP X KOk.n s_R_79 (c_R_isRing htr hk) d_R_reduce_9 rfl ?_ ?_
  · exact ⟨Nat.le_of_ble_eq_true rfl, Nat.le_of_ble_eq_true rfl, Nat.le_of_ble_eq_true rfl, Nat.le_of_ble_eq_true rfl⟩
  refine g_if_ne X 19 d_R_reduce_12 (by decide) (fun _ => ?_) (fun q => absurd q (by decide))
  refine g_aload_n X 0 d_R_reduce_19 rfl rfl ?_
  refine g_iload_n X 1 d_R_reduce_20 rfl rfl ?_
  refine g_VP X KOk.n v_R_50 (q0 := 0) rfl (ci := 2) rfl (c_R_entries htr ha) d_R_reduce_21 rfl ?_ ?_
  · exact ⟨Nat.le_of_ble_eq_true rfl, Nat.le_of_ble_eq_true rfl, Nat.le_of_ble_eq_true rfl, Nat.le_of_ble_eq_true rfl⟩
  have qe := en_le s.2.2.1 a
  refine n_zn X 31 d_R_reduce_24 (by decide) (by omega) (fun h24 => ?_) (fun h24 => ?_)
  · refine g_iconst X (v := nI 0) d_R_reduce_31 (by decide) ?_
    refine p_thrown X hi d_R_reduce_32 ?_
    refine g_aload_n X 0 d_R_reduce_35 rfl rfl ?_
    refine q_thrown X d_R_reduce_36 ?_
    refine g_if_le X 44 d_R_reduce_39 (by decide) (fun _ => ?_) (fun q => absurd q (by decide))
    refine g_aload_n X 0 d_R_reduce_44 rfl rfl ?_
    refine g_iconst X (v := nI 0) d_R_reduce_45 (by decide) ?_
    refine p_far X hi false (by decide) d_R_reduce_46 ?_
    refine g_iconst X (v := nI 0) d_R_reduce_49 (by decide) ?_
    refine g_istore_n X 3 d_R_reduce_50 rfl (by decide) ?_
    refine g_lconst X (v := 0) d_R_reduce_51 (by decide) ?_
    refine g_lstore X d_R_reduce_52 (by decide) ?_
    refine g_bipush X (v := nI 64) d_R_reduce_54 (by decide) ?_
    refine g_iload_n X 1 d_R_reduce_56 rfl rfl ?_
    refine n_mul X d_R_reduce_57 ?_
    refine g_istore X d_R_reduce_58 (by decide) ?_
    refine g_sb (l_R_reduce X htr hi (w := w) ha hk 64 0 (false, 0, false) (by omega) ?_) ⟨rfl, rfl, rfl, rfl, rfl, rfl, trivial⟩
    change G κ _ δ _ _ 0 0 (rl δ b _ _ _ s ((rqZ s a k).2.2, w.2)) [(0, .ref (b 0)), (1, .int (nI a)), (2, .int (nI k)), (3, .int (b2 (rqZ s a k).1)), (4, .long (rqZ s a k).2.1)] _ _
    refine g_aload_n X 0 d_R_reduce_127 rfl rfl ?_
    refine g_aload_n X 0 d_R_reduce_128 rfl rfl ?_
    refine q_far X d_R_reduce_129 ?_
    refine z_eq X 139 d_R_reduce_132 (by decide) (fun h132 => ?_) (fun h132 => ?_)
    · refine g_iconst X (v := nI 0) d_R_reduce_139 (by decide) ?_
      refine p_thrown X hi d_R_reduce_140 ?_
      refine g_aload_n X 0 d_R_reduce_143 rfl rfl ?_
      refine q_far X d_R_reduce_144 ?_
      refine z_eq X 154 d_R_reduce_147 (by decide) (fun _ => ?_) (fun q => absurd ((h132).symm.trans q) (by decide))
      refine g_lload X d_R_reduce_154 rfl ?_
      exact g_lret X KOk.n d_R_reduce_156 (Or.inr ⟨h132, rfl, rfl⟩)
    · refine g_iconst X (v := nI 3) d_R_reduce_135 (by decide) ?_
      refine g_goto X 140 d_R_reduce_136 (by decide) ?_
      refine p_thrown X hi d_R_reduce_140 ?_
      refine g_aload_n X 0 d_R_reduce_143 rfl rfl ?_
      refine q_far X d_R_reduce_144 ?_
      refine z_eq X 154 d_R_reduce_147 (by decide) (fun q => absurd ((h132).symm.trans q) (by decide)) (fun _ => ?_)
      refine g_lconst X (v := 0) d_R_reduce_150 (by decide) ?_
      refine g_goto X 156 d_R_reduce_151 (by decide) ?_
      exact g_lret X KOk.n d_R_reduce_156 (Or.inl ⟨h132, rfl, rfl⟩)
  · exact absurd h24 hn
set_option maxHeartbeats 4000000 in
set_option maxRecDepth 100000 in
theorem c_R_reduce_x2 {l : Launch} (htr : l.stackTraces = false) {δ : EX} {b : Nat → Nat} (hi : In7 b) {th wd hg : Nat} {s : SS} {w : WS} {a k : Nat} (ha : a < 6) (hk : k < 4) (hn : en s.2.2.1 a = 0) : CTN l y_R_reduce cw_R_reduce (RM 2) δ (Br b) (rl δ b th wd hg s w) [.ref (b 0), .int (nI a), .int (nI k)] (some (.long 0)) (rl δ b 2 wd hg s w) := by
  refine CT.ofN (lv := [(0, .ref (b 0)), (1, .int (nI a)), (2, .int (nI k))]) (Or.inl ⟨rfl, rfl⟩) (by decide) htr rfl (Nat.le_of_ble_eq_true rfl) (fun κ hl X => ?_)
  subst hl
  refine g_aload_n X 0 d_R_reduce_0 rfl rfl ?_
  refine g_iload_n X 1 d_R_reduce_1 rfl rfl ?_
  refine g_SP X KOk.n s_R_38 (c_R_isReg htr ha) d_R_reduce_2 rfl ?_ ?_
  · exact ⟨Nat.le_of_ble_eq_true rfl, Nat.le_of_ble_eq_true rfl, Nat.le_of_ble_eq_true rfl, Nat.le_of_ble_eq_true rfl⟩
  refine g_if_eq X 15 d_R_reduce_5 (by decide) (fun q => absurd q (by decide)) (fun _ => ?_)
  refine g_iload_n X 2 d_R_reduce_8 rfl rfl ?_
  refine g_SP X KOk.n s_R_79 (c_R_isRing htr hk) d_R_reduce_9 rfl ?_ ?_
  · exact ⟨Nat.le_of_ble_eq_true rfl, Nat.le_of_ble_eq_true rfl, Nat.le_of_ble_eq_true rfl, Nat.le_of_ble_eq_true rfl⟩
  refine g_if_ne X 19 d_R_reduce_12 (by decide) (fun _ => ?_) (fun q => absurd q (by decide))
  refine g_aload_n X 0 d_R_reduce_19 rfl rfl ?_
  refine g_iload_n X 1 d_R_reduce_20 rfl rfl ?_
  refine g_VP X KOk.n v_R_50 (q0 := 0) rfl (ci := 2) rfl (c_R_entries htr ha) d_R_reduce_21 rfl ?_ ?_
  · exact ⟨Nat.le_of_ble_eq_true rfl, Nat.le_of_ble_eq_true rfl, Nat.le_of_ble_eq_true rfl, Nat.le_of_ble_eq_true rfl⟩
  have qe := en_le s.2.2.1 a
  refine n_zn X 31 d_R_reduce_24 (by decide) (by omega) (fun h24 => ?_) (fun h24 => ?_)
  · exact absurd hn h24
  · refine g_iconst X (v := nI 2) d_R_reduce_27 (by decide) ?_
    refine g_goto X 32 d_R_reduce_28 (by decide) ?_
    refine p_thrown X hi d_R_reduce_32 ?_
    refine g_aload_n X 0 d_R_reduce_35 rfl rfl ?_
    refine q_thrown X d_R_reduce_36 ?_
    refine g_if_le X 44 d_R_reduce_39 (by decide) (fun q => absurd q (by decide)) (fun _ => ?_)
    refine g_lconst X (v := 0) d_R_reduce_42 (by decide) ?_
    exact g_lret X KOk.n d_R_reduce_43 ⟨rfl, rfl⟩
set_option maxHeartbeats 4000000 in
set_option maxRecDepth 100000 in
theorem c_R_reduce_x1 {l : Launch} (htr : l.stackTraces = false) {δ : EX} {b : Nat → Nat} (hi : In7 b) {th wd hg : Nat} {s : SS} {w : WS} {x1 x2 : Int32} (h : bR x1 ∨ bH 3 x2) : CTN l y_R_reduce cw_R_reduce (RM 2) δ (Br b) (rl δ b th wd hg s w) [.ref (b 0), .int x1, .int x2] (some (.long 0)) (rl δ b 1 wd hg s w) := by
  refine CT.ofN (lv := [(0, .ref (b 0)), (1, .int x1), (2, .int x2)]) (Or.inl ⟨rfl, rfl⟩) (by decide) htr rfl (Nat.le_of_ble_eq_true rfl) (fun κ hl X => ?_)
  subst hl
  refine g_aload_n X 0 d_R_reduce_0 rfl rfl ?_
  refine g_iload_n X 1 d_R_reduce_1 rfl rfl ?_
  rcases bR_or x1 with q | ⟨r1, k1, rfl⟩
  · refine g_SP X KOk.n s_R_38 (c_R_isReg_x htr q) d_R_reduce_2 rfl ?_ ?_
    · exact ⟨Nat.le_of_ble_eq_true rfl, Nat.le_of_ble_eq_true rfl, Nat.le_of_ble_eq_true rfl, Nat.le_of_ble_eq_true rfl⟩
    refine g_if_eq X 15 d_R_reduce_5 (by decide) (fun _ => ?_) (fun q => absurd q (by decide))
    refine g_iconst X (v := nI 1) d_R_reduce_15 (by decide) ?_
    refine g_goto X 32 d_R_reduce_16 (by decide) ?_
    refine p_thrown X hi d_R_reduce_32 ?_
    refine g_aload_n X 0 d_R_reduce_35 rfl rfl ?_
    refine q_thrown X d_R_reduce_36 ?_
    refine g_if_le X 44 d_R_reduce_39 (by decide) (fun q => absurd q (by decide)) (fun _ => ?_)
    refine g_lconst X (v := 0) d_R_reduce_42 (by decide) ?_
    exact g_lret X KOk.n d_R_reduce_43 ⟨rfl, rfl⟩
  · refine g_SP X KOk.n s_R_38 (c_R_isReg htr k1) d_R_reduce_2 rfl ?_ ?_
    · exact ⟨Nat.le_of_ble_eq_true rfl, Nat.le_of_ble_eq_true rfl, Nat.le_of_ble_eq_true rfl, Nat.le_of_ble_eq_true rfl⟩
    refine g_if_eq X 15 d_R_reduce_5 (by decide) (fun q => absurd q (by decide)) (fun _ => ?_)
    refine g_iload_n X 2 d_R_reduce_8 rfl rfl ?_
    rcases bK_or x2 with q | ⟨r2, k2, rfl⟩
    · refine g_SP X KOk.n s_R_79 (c_R_isRing_x htr q) d_R_reduce_9 rfl ?_ ?_
      · exact ⟨Nat.le_of_ble_eq_true rfl, Nat.le_of_ble_eq_true rfl, Nat.le_of_ble_eq_true rfl, Nat.le_of_ble_eq_true rfl⟩
      refine g_if_ne X 19 d_R_reduce_12 (by decide) (fun q => absurd q (by decide)) (fun _ => ?_)
      refine g_iconst X (v := nI 1) d_R_reduce_15 (by decide) ?_
      refine g_goto X 32 d_R_reduce_16 (by decide) ?_
      refine p_thrown X hi d_R_reduce_32 ?_
      refine g_aload_n X 0 d_R_reduce_35 rfl rfl ?_
      refine q_thrown X d_R_reduce_36 ?_
      refine g_if_le X 44 d_R_reduce_39 (by decide) (fun q => absurd q (by decide)) (fun _ => ?_)
      refine g_lconst X (v := 0) d_R_reduce_42 (by decide) ?_
      exact g_lret X KOk.n d_R_reduce_43 ⟨rfl, rfl⟩
    · refine g_SP X KOk.n s_R_79 (c_R_isRing htr k2) d_R_reduce_9 rfl ?_ ?_
      · exact ⟨Nat.le_of_ble_eq_true rfl, Nat.le_of_ble_eq_true rfl, Nat.le_of_ble_eq_true rfl, Nat.le_of_ble_eq_true rfl⟩
      refine g_if_ne X 19 d_R_reduce_12 (by decide) (fun _ => ?_) (fun q => absurd q (by decide))
      exact absurd h (by
        rintro (q | q)
        · exact bR_no k1 q
        · exact bK_no k2 q)
end RA3
