section GD5
/-- a length out of range -/
def blL (F : Mx) (i j : Nat) : Prop := mHas F (8 * i + j) = true ∧ 1000000000 < abL (mVal F (8 * i + j))
def leL (F : Mx) : Prop := ∀ i, i < F.1 → ∀ j, j < F.2.1 → ¬ blL F i j
def ciL (F : Mx) : Prop := ∀ i, i < F.1 → ¬ mVal F (8 * i + i) < 0
set_option maxHeartbeats 4000000 in
set_option maxRecDepth 100000 in
theorem l_D_lej {κ : KX} {δ : EX} {ad : Nat → Nat} (X : XO κ R_D b_D_requireLengths 3 none δ (RM 1) NoA []) (htr : (xl κ).stackTraces = false) {M : DS} {a i : Nat} (ha : a < 6) (hi : i < (M a).1) (h7 : (M a).1 ≤ 8) (h8 : (M a).2.1 ≤ 8) : ∀ n j, j + n = (M a).2.1 → (∀ j', j' < j → ¬ blL (M a) i j') → ((∀ j', j' < (M a).2.1 → ¬ blL (M a) i j') → G κ 3 δ (Kp κ) (Qe κ δ NoA (fun r w => w = dl δ ad M ∧ ((leL (M a) ∧ r = .inr none) ∨ (¬ leL (M a) ∧ r = .inl 4)))) 0 0 (dl δ ad M) [(0, .ref (mq ad a)), (1, .int (nI i))] [] 61) → G κ 3 δ (Kp κ) (Qe κ δ NoA (fun r w => w = dl δ ad M ∧ ((leL (M a) ∧ r = .inr none) ∨ (¬ leL (M a) ∧ r = .inl 4)))) 0 0 (dl δ ad M) [(2, .int (nI j)), (0, .ref (mq ad a)), (1, .int (nI i))] [] 12 := by
  intro n
  induction n with
  | zero =>
    intro j hj hq hx
    refine g_iload_n X 2 d_D_requireLengths_12 rfl rfl ?_
    refine g_aload_n X 0 d_D_requireLengths_13 rfl rfl ?_
    refine r_cols X kf_D_62 d_D_requireLengths_14 (by omega) ?_
    refine g_icmp_ge X 61 d_D_requireLengths_17 (by decide) (fun hc => ?_) (fun hc => ?_)
    · exact g_sb (hx (fun j' h => hq j' (by omega))) ⟨rfl, rfl, trivial⟩
    · exact absurd (nI_le (by omega) (by omega)) hc
  | succ n ih =>
    intro j hj hq hx
    refine g_iload_n X 2 d_D_requireLengths_12 rfl rfl ?_
    refine g_aload_n X 0 d_D_requireLengths_13 rfl rfl ?_
    refine r_cols X kf_D_62 d_D_requireLengths_14 (by omega) ?_
    refine g_icmp_ge X 61 d_D_requireLengths_17 (by decide) (fun hc => ?_) (fun hc => ?_)
    · exact absurd hc (nI_ge (by omega) (by omega))
    · clear hc
      have go : ¬ blL (M a) i j → G κ 3 δ (Kp κ) (Qe κ δ NoA (fun r w => w = dl δ ad M ∧ ((leL (M a) ∧ r = .inr none) ∨ (¬ leL (M a) ∧ r = .inl 4)))) 0 0 (dl δ ad M) [(2, .int (nI j)), (0, .ref (mq ad a)), (1, .int (nI i))] [] 55 := fun hb => by
        refine g_iinc X d_D_requireLengths_55 rfl (nI_1 _) (by decide) ?_
        refine g_goto X 12 d_D_requireLengths_58 (by decide) ?_
        refine g_sb (ih (j + 1) (by omega) (fun j' h => ?_) hx) ⟨rfl, rfl, rfl, trivial⟩
        by_cases e : j' = j
        · rw [e]; exact hb
        · exact hq j' (by omega)
      refine g_aload_n X 0 d_D_requireLengths_20 rfl rfl ?_
      refine g_iload_n X 1 d_D_requireLengths_21 rfl rfl ?_
      refine g_iload_n X 2 d_D_requireLengths_22 rfl rfl ?_
      refine g_VP X KOk.p v_D_43 (dl_m (by omega)) rfl (c_M_has htr (by omega) (by omega) (by omega)) d_D_requireLengths_23 rfl ⟨Nat.le_of_ble_eq_true rfl, Nat.le_of_ble_eq_true rfl, Nat.le_of_ble_eq_true rfl, Nat.le_of_ble_eq_true rfl⟩ ?_
      refine g_if_eq X 55 d_D_requireLengths_26 (by decide) (fun hc => ?_) (fun hc => ?_)
      · have h := b2_0.mp hc
        exact go (fun q => absurd (h.symm.trans q.1) (by decide))
      · have h := b2_t hc
        refine g_aload_n X 0 d_D_requireLengths_29 rfl rfl ?_
        refine g_iload_n X 1 d_D_requireLengths_30 rfl rfl ?_
        refine g_iload_n X 2 d_D_requireLengths_31 rfl rfl ?_
        refine g_VP X KOk.p v_D_54 (dl_m (by omega)) rfl (c_M_value htr (by omega) (by omega) (by omega)) d_D_requireLengths_32 rfl ⟨Nat.le_of_ble_eq_true rfl, Nat.le_of_ble_eq_true rfl, Nat.le_of_ble_eq_true rfl, Nat.le_of_ble_eq_true rfl⟩ ?_
        refine g_labs X kl_D_175 d_D_requireLengths_35 ⟨Nat.le_of_ble_eq_true rfl, Nat.le_of_ble_eq_true rfl, Nat.le_of_ble_eq_true rfl, Nat.le_of_ble_eq_true rfl⟩ ?_
        refine g_ldc2 X d_D_requireLengths_38 kq_D_216 ?_
        refine g_lcmp X d_D_requireLengths_41 ?_
        refine g_if_le X 55 d_D_requireLengths_42 (by decide) (fun hd => ?_) (fun hd => ?_)
        · have h2 := Int64.not_lt.mpr ((lg_cmp_le _ _).mp hd)
          exact go (fun q => h2 q.2)
        · have h2 := Int64.not_le.mp (fun q => hd ((lg_cmp_le _ _).mpr q))
          exact x_4 X kr_D_218 d_D_requireLengths_45 d_D_requireLengths_48 d_D_requireLengths_49 d_D_requireLengths_51 d_D_requireLengths_54 ⟨Nat.le_of_ble_eq_true rfl, Nat.le_of_ble_eq_true rfl, Nat.le_of_ble_eq_true rfl, Nat.le_of_ble_eq_true rfl⟩ ⟨rfl, Or.inr ⟨fun q => q i hi j (by omega) ⟨h, h2⟩, rfl⟩⟩
set_option maxHeartbeats 4000000 in
set_option maxRecDepth 100000 in
theorem l_D_lei {κ : KX} {δ : EX} {ad : Nat → Nat} (X : XO κ R_D b_D_requireLengths 3 none δ (RM 1) NoA []) (htr : (xl κ).stackTraces = false) {M : DS} {a : Nat} (ha : a < 6) (h7 : (M a).1 ≤ 8) (h8 : (M a).2.1 ≤ 8) : ∀ n i, i + n = (M a).1 → (∀ i', i' < i → ∀ j, j < (M a).2.1 → ¬ blL (M a) i' j) → G κ 3 δ (Kp κ) (Qe κ δ NoA (fun r w => w = dl δ ad M ∧ ((leL (M a) ∧ r = .inr none) ∨ (¬ leL (M a) ∧ r = .inl 4)))) 0 0 (dl δ ad M) [(1, .int (nI i)), (0, .ref (mq ad a))] [] 2 := by
  intro n
  induction n with
  | zero =>
    intro i hi hq
    refine g_iload_n X 1 d_D_requireLengths_2 rfl rfl ?_
    refine g_aload_n X 0 d_D_requireLengths_3 rfl rfl ?_
    refine r_rows X kf_D_58 d_D_requireLengths_4 (by omega) ?_
    refine g_icmp_ge X 67 d_D_requireLengths_7 (by decide) (fun hc => ?_) (fun hc => ?_)
    · exact g_vret X KOk.p d_D_requireLengths_67 ⟨rfl, Or.inl ⟨fun i' h => hq i' (by omega), rfl⟩⟩
    · exact absurd (nI_le (by omega) (by omega)) hc
  | succ n ih =>
    intro i hi hq
    refine g_iload_n X 1 d_D_requireLengths_2 rfl rfl ?_
    refine g_aload_n X 0 d_D_requireLengths_3 rfl rfl ?_
    refine r_rows X kf_D_58 d_D_requireLengths_4 (by omega) ?_
    refine g_icmp_ge X 67 d_D_requireLengths_7 (by decide) (fun hc => ?_) (fun hc => ?_)
    · exact absurd hc (nI_ge (by omega) (by omega))
    · clear hc
      refine g_iconst X (v := nI 0) d_D_requireLengths_10 (by decide) ?_
      refine g_istore_n X 2 d_D_requireLengths_11 rfl (by decide) ?_
      refine g_sb (l_D_lej X htr ha (by omega) h7 h8 (M a).2.1 0 (by omega) (fun _ h => absurd h (by omega)) (fun hr => ?_)) ⟨rfl, rfl, rfl, trivial⟩
      refine g_iinc X d_D_requireLengths_61 rfl (nI_1 _) (by decide) ?_
      refine g_goto X 2 d_D_requireLengths_64 (by decide) ?_
      refine g_sb (ih (i + 1) (by omega) (fun i' h => ?_)) ⟨rfl, rfl, trivial⟩
      by_cases e : i' = i
      · rw [e]; exact hr
      · exact hq i' (by omega)
set_option maxHeartbeats 4000000 in
set_option maxRecDepth 100000 in
theorem c_D_le0 {l : Launch} (htr : l.stackTraces = false) {δ : EX} {ad : Nat → Nat} {M : DS} {a : Nat} (ha : a < 6) (h7 : (M a).1 ≤ 8) (h8 : (M a).2.1 ≤ 8) : CT l y_D_requireLengths cw_D_requireLengths (RM 1) δ NoA (dl δ ad M) [.ref (mq ad a)] (fun r w => w = dl δ ad M ∧ ((leL (M a) ∧ r = .inr none) ∨ (¬ leL (M a) ∧ r = .inl 4))) := by
  refine CT.ofP (lv := [(0, .ref (mq ad a))]) (Or.inl ⟨rfl, rfl⟩) (by decide) htr rfl (Nat.le_of_ble_eq_true rfl) (fun κ hl X => ?_)
  subst hl
  refine g_iconst X (v := nI 0) d_D_requireLengths_0 (by decide) ?_
  refine g_istore_n X 1 d_D_requireLengths_1 rfl (by decide) ?_
  exact g_sb (l_D_lei X htr ha h7 h8 (M a).1 0 (by omega) (fun _ h => absurd h (by omega))) ⟨rfl, rfl, trivial⟩
theorem CT.mono {l : Launch} {y : MethodName} {cw : Cond} {rm : Room} {δ : EX} {A0 : Nat → Prop} {ws : va_W} {av : List Value} {P P2 : OC → va_W → Prop} (h : ∀ r w, P r w → P2 r w) (hC : CT l y cw rm δ A0 ws av P) : CT l y cw rm δ A0 ws av P2 := by
  intro p e ha hc hk s m args below hf happ hP hK
  obtain ⟨n, o, h1, h2, h3, r, w, L, k, n', h4, h5⟩ := hC p e ha hc hk s m args below hf happ hP hK
  exact ⟨n, o, h1, h2, h3, r, w, L, k, n', h r w h4, h5⟩
theorem c_D_le {l : Launch} (htr : l.stackTraces = false) {δ : EX} {ad : Nat → Nat} {M : DS} {a : Nat} (ha : a < 6) (h7 : (M a).1 ≤ 8) (h8 : (M a).2.1 ≤ 8) (h : leL (M a)) : CTP l y_D_requireLengths cw_D_requireLengths (RM 1) δ (dl δ ad M) [.ref (mq ad a)] (.inr none) := CT.mono (fun r w q => by
  rcases q.2 with ⟨-, h2⟩ | ⟨h1, -⟩
  · exact ⟨h2, q.1⟩
  · exact absurd h h1) (c_D_le0 htr ha h7 h8)
theorem c_D_le_x {l : Launch} (htr : l.stackTraces = false) {δ : EX} {ad : Nat → Nat} {M : DS} {a : Nat} (ha : a < 6) (h7 : (M a).1 ≤ 8) (h8 : (M a).2.1 ≤ 8) (h : ¬ leL (M a)) : CTP l y_D_requireLengths cw_D_requireLengths (RM 1) δ (dl δ ad M) [.ref (mq ad a)] (.inl 4) := CT.mono (fun r w q => by
  rcases q.2 with ⟨h1, -⟩ | ⟨-, h2⟩
  · exact absurd h1 h
  · exact ⟨h2, q.1⟩) (c_D_le0 htr ha h7 h8)
set_option maxHeartbeats 4000000 in
set_option maxRecDepth 100000 in
theorem l_D_ci {κ : KX} {δ : EX} {ad : Nat → Nat} (X : XO κ R_D b_D_requireNoCircleBelowZero 2 none δ (RM 1) NoA []) (htr : (xl κ).stackTraces = false) {M : DS} (h7 : (M 6).1 ≤ 8) : ∀ n i, i + n = (M 6).1 → (∀ i', i' < i → ¬ mVal (M 6) (8 * i' + i') < 0) → G κ 2 δ (Kp κ) (Qe κ δ NoA (fun r w => w = dl δ ad M ∧ ((ciL (M 6) ∧ r = .inr none) ∨ (¬ ciL (M 6) ∧ r = .inl 3)))) 0 0 (dl δ ad M) [(1, .int (nI i)), (0, .ref (mq ad 6))] [] 2 := by
  intro n
  induction n with
  | zero =>
    intro i hi hq
    refine g_iload_n X 1 d_D_requireNoCircleBelowZero_2 rfl rfl ?_
    refine g_aload_n X 0 d_D_requireNoCircleBelowZero_3 rfl rfl ?_
    refine r_rows X kf_D_58 d_D_requireNoCircleBelowZero_4 (by omega) ?_
    refine g_icmp_ge X 37 d_D_requireNoCircleBelowZero_7 (by decide) (fun hc => ?_) (fun hc => ?_)
    · exact g_vret X KOk.p d_D_requireNoCircleBelowZero_37 ⟨rfl, Or.inl ⟨fun i' h => hq i' (by omega), rfl⟩⟩
    · exact absurd (nI_le (by omega) (by omega)) hc
  | succ n ih =>
    intro i hi hq
    refine g_iload_n X 1 d_D_requireNoCircleBelowZero_2 rfl rfl ?_
    refine g_aload_n X 0 d_D_requireNoCircleBelowZero_3 rfl rfl ?_
    refine r_rows X kf_D_58 d_D_requireNoCircleBelowZero_4 (by omega) ?_
    refine g_icmp_ge X 37 d_D_requireNoCircleBelowZero_7 (by decide) (fun hc => ?_) (fun hc => ?_)
    · exact absurd hc (nI_ge (by omega) (by omega))
    · clear hc
      refine g_aload_n X 0 d_D_requireNoCircleBelowZero_10 rfl rfl ?_
      refine g_iload_n X 1 d_D_requireNoCircleBelowZero_11 rfl rfl ?_
      refine g_iload_n X 1 d_D_requireNoCircleBelowZero_12 rfl rfl ?_
      refine g_VP X KOk.p v_D_54 (dl_m (by omega)) rfl (c_M_value htr (by omega) (by omega) (by omega)) d_D_requireNoCircleBelowZero_13 rfl ⟨Nat.le_of_ble_eq_true rfl, Nat.le_of_ble_eq_true rfl, Nat.le_of_ble_eq_true rfl, Nat.le_of_ble_eq_true rfl⟩ ?_
      refine g_lconst X (v := 0) d_D_requireNoCircleBelowZero_16 (by decide) ?_
      refine g_lcmp X d_D_requireNoCircleBelowZero_17 ?_
      refine g_if_ge X 31 d_D_requireNoCircleBelowZero_18 (by decide) (fun hc => ?_) (fun hc => ?_)
      · have h2 := Int64.not_lt.mpr ((lg_cmp_ge _ _).mp hc)
        refine g_iinc X d_D_requireNoCircleBelowZero_31 rfl (nI_1 _) (by decide) ?_
        refine g_goto X 2 d_D_requireNoCircleBelowZero_34 (by decide) ?_
        refine g_sb (ih (i + 1) (by omega) (fun i' h => ?_)) ⟨rfl, rfl, trivial⟩
        by_cases e : i' = i
        · rw [e]; exact h2
        · exact hq i' (by omega)
      · have h2 := Int64.not_le.mp (fun q => hc ((lg_cmp_ge _ _).mpr q))
        exact x_3 X kr_D_220 d_D_requireNoCircleBelowZero_21 d_D_requireNoCircleBelowZero_24 d_D_requireNoCircleBelowZero_25 d_D_requireNoCircleBelowZero_27 d_D_requireNoCircleBelowZero_30 ⟨Nat.le_of_ble_eq_true rfl, Nat.le_of_ble_eq_true rfl, Nat.le_of_ble_eq_true rfl, Nat.le_of_ble_eq_true rfl⟩ ⟨rfl, Or.inr ⟨fun q => q i (by omega) h2, rfl⟩⟩
set_option maxHeartbeats 4000000 in
set_option maxRecDepth 100000 in
theorem c_D_ci0 {l : Launch} (htr : l.stackTraces = false) {δ : EX} {ad : Nat → Nat} {M : DS} (h7 : (M 6).1 ≤ 8) : CT l y_D_requireNoCircleBelowZero cw_D_requireNoCircleBelowZero (RM 1) δ NoA (dl δ ad M) [.ref (mq ad 6)] (fun r w => w = dl δ ad M ∧ ((ciL (M 6) ∧ r = .inr none) ∨ (¬ ciL (M 6) ∧ r = .inl 3))) := by
  refine CT.ofP (lv := [(0, .ref (mq ad 6))]) (Or.inl ⟨rfl, rfl⟩) (by decide) htr rfl (Nat.le_of_ble_eq_true rfl) (fun κ hl X => ?_)
  subst hl
  refine g_iconst X (v := nI 0) d_D_requireNoCircleBelowZero_0 (by decide) ?_
  refine g_istore_n X 1 d_D_requireNoCircleBelowZero_1 rfl (by decide) ?_
  exact g_sb (l_D_ci X htr h7 (M 6).1 0 (by omega) (fun _ h => absurd h (by omega))) ⟨rfl, rfl, trivial⟩
theorem c_D_ci {l : Launch} (htr : l.stackTraces = false) {δ : EX} {ad : Nat → Nat} {M : DS} (h7 : (M 6).1 ≤ 8) (h : ciL (M 6)) : CTP l y_D_requireNoCircleBelowZero cw_D_requireNoCircleBelowZero (RM 1) δ (dl δ ad M) [.ref (mq ad 6)] (.inr none) := CT.mono (fun r w q => by
  rcases q.2 with ⟨-, h2⟩ | ⟨h1, -⟩
  · exact ⟨h2, q.1⟩
  · exact absurd h h1) (c_D_ci0 htr h7)
theorem c_D_ci_x {l : Launch} (htr : l.stackTraces = false) {δ : EX} {ad : Nat → Nat} {M : DS} (h7 : (M 6).1 ≤ 8) (h : ¬ ciL (M 6)) : CTP l y_D_requireNoCircleBelowZero cw_D_requireNoCircleBelowZero (RM 1) δ (dl δ ad M) [.ref (mq ad 6)] (.inl 3) := CT.mono (fun r w q => by
  rcases q.2 with ⟨h1, -⟩ | ⟨-, h2⟩
  · exact absurd h1 h
  · exact ⟨h2, q.1⟩) (c_D_ci0 htr h7)
end GD5
