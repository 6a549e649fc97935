section GB2
set_option maxHeartbeats 4000000 in
set_option maxRecDepth 100000 in
theorem l_D_gAj {κ : KX} {δ : EX} {ad : Nat → Nat} (X : XO κ R_D b_D_gatherAll 5 none δ (RM 4) (Ar ad) []) (htr : (xl κ).stackTraces = false) (hinj : Inj ad) {M : DS} {P' : OC → va_W → Prop} {a i k : Nat} (ha : a < 6) (hi : i < 8) (hk : k < 4) (h8 : (M a).2.1 ≤ 8) : ∀ n j S, j + n = (M a).2.1 → (∀ S', fo (gAj k (M a) i) j n S = some S' → G κ 5 δ (Kn κ (Ar ad)) (Qe κ δ (Ar ad) P') 0 0 (dl δ ad (va_up M 6 S')) [(0, .ref (mq ad 6)), (1, .ref (mq ad a)), (2, .int (nI k)), (3, .int (nI i))] [] 53) → (fo (gAj k (M a) i) j n S = none → ∀ S', P' (.inl 4) (dl δ ad (va_up M 6 S'))) → G κ 5 δ (Kn κ (Ar ad)) (Qe κ δ (Ar ad) P') 0 0 (dl δ ad (va_up M 6 S)) [(4, .int (nI j)), (0, .ref (mq ad 6)), (1, .ref (mq ad a)), (2, .int (nI k)), (3, .int (nI i))] [] 13 := by
  intro n
  induction n with
  | zero =>
    intro j S hj hx ht
    refine g_iload X d_D_gatherAll_13 rfl ?_
    refine g_aload_n X 1 d_D_gatherAll_15 rfl rfl ?_
    refine r_cols X kf_D_62 d_D_gatherAll_16 (by omega) ?_
    rw [va_up6 ha]
    refine g_icmp_ge X 53 d_D_gatherAll_19 (by decide) (fun hc => ?_) (fun hc => ?_)
    · exact g_sb (hx S rfl) ⟨rfl, rfl, rfl, rfl, trivial⟩
    · exact absurd (nI_le (by omega) (by omega)) hc
  | succ n ih =>
    intro j S hj hx ht
    refine g_iload X d_D_gatherAll_13 rfl ?_
    refine g_aload_n X 1 d_D_gatherAll_15 rfl rfl ?_
    refine r_cols X kf_D_62 d_D_gatherAll_16 (by omega) ?_
    rw [va_up6 ha]
    refine g_icmp_ge X 53 d_D_gatherAll_19 (by decide) (fun hc => ?_) (fun hc => ?_)
    · exact absurd hc (nI_ge (by omega) (by omega))
    · clear hc
      refine g_aload_n X 1 d_D_gatherAll_22 rfl rfl ?_
      refine g_iload_n X 3 d_D_gatherAll_23 rfl rfl ?_
      refine g_iload X d_D_gatherAll_24 rfl ?_
      refine g_VP X KOk.n v_D_43 (dl_m (by omega)) rfl (c_M_has htr (by omega) hi (by omega)) d_D_gatherAll_26 rfl ⟨Nat.le_of_ble_eq_true rfl, Nat.le_of_ble_eq_true rfl, Nat.le_of_ble_eq_true rfl, Nat.le_of_ble_eq_true rfl⟩ ?_
      rw [va_up6 ha]
      refine g_if_eq X 47 d_D_gatherAll_29 (by decide) (fun hc => ?_) (fun hc => ?_)
      · have h := b2_0.mp hc
        have e : (gAj k (M a) i) j S = some S := by simp [gAj, h]
        rw [fo_s e] at hx ht
        refine g_iinc X d_D_gatherAll_47 rfl (nI_1 _) (by decide) ?_
        refine g_goto X 13 d_D_gatherAll_50 (by decide) ?_
        exact g_sb (ih (j + 1) S (by omega) hx ht) ⟨rfl, rfl, rfl, rfl, rfl, trivial⟩
      · have h := b2_t hc
        refine g_aload_n X 0 d_D_gatherAll_32 rfl rfl ?_
        refine g_iload_n X 3 d_D_gatherAll_33 rfl rfl ?_
        refine g_iload X d_D_gatherAll_34 rfl ?_
        refine g_aload_n X 1 d_D_gatherAll_36 rfl rfl ?_
        refine g_iload_n X 3 d_D_gatherAll_37 rfl rfl ?_
        refine g_iload X d_D_gatherAll_38 rfl ?_
        refine g_VP X KOk.n v_D_54 (dl_m (by omega)) rfl (c_M_value htr (by omega) hi (by omega)) d_D_gatherAll_40 rfl ⟨Nat.le_of_ble_eq_true rfl, Nat.le_of_ble_eq_true rfl, Nat.le_of_ble_eq_true rfl, Nat.le_of_ble_eq_true rfl⟩ ?_
        rw [va_up6 ha]
        refine g_iload_n X 2 d_D_gatherAll_43 rfl rfl ?_
        have e : (gAj k (M a) i) j S = gaS k S (8 * i + j) (mVal (M a) (8 * i + j)) := by simp [gAj, h]
        refine g_SPO X s_D_119 (c_D_gather htr hinj hi (by omega) hk) d_D_gatherAll_44 rfl ⟨Nat.le_of_ble_eq_true rfl, Nat.le_of_ble_eq_true rfl, Nat.le_of_ble_eq_true rfl, Nat.le_of_ble_eq_true rfl⟩ (fun S' hS => ?_) (fun hS S' => ?_)
        · rw [va_up_s] at hS
          rw [fo_s (e.trans hS)] at hx ht
          refine g_iinc X d_D_gatherAll_47 rfl (nI_1 _) (by decide) ?_
          refine g_goto X 13 d_D_gatherAll_50 (by decide) ?_
          exact g_sb (ih (j + 1) S' (by omega) hx ht) ⟨rfl, rfl, rfl, rfl, rfl, trivial⟩
        · rw [va_up_s] at hS
          exact ht (fo_n (e.trans hS)) S'
set_option maxHeartbeats 4000000 in
set_option maxRecDepth 100000 in
theorem l_D_gAi {κ : KX} {δ : EX} {ad : Nat → Nat} (X : XO κ R_D b_D_gatherAll 5 none δ (RM 4) (Ar ad) []) (htr : (xl κ).stackTraces = false) (hinj : Inj ad) {M : DS} {a k : Nat} (ha : a < 6) (hk : k < 4) (h7 : (M a).1 ≤ 8) (h8 : (M a).2.1 ≤ 8) : ∀ n i S, i + n = (M a).1 → G κ 5 δ (Kn κ (Ar ad)) (Qe κ δ (Ar ad) (PO δ ad M (fo (gAi k (M a)) i n S))) 0 0 (dl δ ad (va_up M 6 S)) [(3, .int (nI i)), (0, .ref (mq ad 6)), (1, .ref (mq ad a)), (2, .int (nI k))] [] 2 := by
  intro n
  induction n with
  | zero =>
    intro i S hi
    refine g_iload_n X 3 d_D_gatherAll_2 rfl rfl ?_
    refine g_aload_n X 1 d_D_gatherAll_3 rfl rfl ?_
    refine r_rows X kf_D_58 d_D_gatherAll_4 (by omega) ?_
    rw [va_up6 ha]
    refine g_icmp_ge X 59 d_D_gatherAll_7 (by decide) (fun hc => ?_) (fun hc => ?_)
    · exact g_vret X KOk.n d_D_gatherAll_59 (Or.inl ⟨S, rfl, rfl, rfl⟩)
    · exact absurd (nI_le (by omega) (by omega)) hc
  | succ n ih =>
    intro i S hi
    refine g_iload_n X 3 d_D_gatherAll_2 rfl rfl ?_
    refine g_aload_n X 1 d_D_gatherAll_3 rfl rfl ?_
    refine r_rows X kf_D_58 d_D_gatherAll_4 (by omega) ?_
    rw [va_up6 ha]
    refine g_icmp_ge X 59 d_D_gatherAll_7 (by decide) (fun hc => ?_) (fun hc => ?_)
    · exact absurd hc (nI_ge (by omega) (by omega))
    · clear hc
      refine g_iconst X (v := nI 0) d_D_gatherAll_10 (by decide) ?_
      refine g_istore X d_D_gatherAll_11 (by decide) ?_
      refine g_sb (l_D_gAj X htr hinj ha (by omega) hk h8 (M a).2.1 0 S (by omega) (fun S' hS => ?_) (fun hS S' => ?_)) ⟨rfl, rfl, rfl, rfl, rfl, trivial⟩
      · rw [fo_s (f := gAi k (M a)) hS]
        refine g_iinc X d_D_gatherAll_53 rfl (nI_1 _) (by decide) ?_
        refine g_goto X 2 d_D_gatherAll_56 (by decide) ?_
        exact g_sb (ih (i + 1) S' (by omega)) ⟨rfl, rfl, rfl, rfl, trivial⟩
      · exact Or.inr ⟨fo_n (f := gAi k (M a)) hS, rfl, S', rfl⟩
set_option maxHeartbeats 4000000 in
set_option maxRecDepth 100000 in
theorem c_D_gA {l : Launch} (htr : l.stackTraces = false) {δ : EX} {ad : Nat → Nat} {M : DS} (hinj : Inj ad) {a k : Nat} (ha : a < 6) (hk : k < 4) (h7 : (M a).1 ≤ 8) (h8 : (M a).2.1 ≤ 8) : CT l y_D_gatherAll cw_D_gatherAll (RM 4) δ (Ar ad) (dl δ ad M) [.ref (mq ad 6), .ref (mq ad a), .int (nI k)] (PO δ ad M (gA k (M a) (M 6))) := by
  refine CT.ofN (lv := [(0, .ref (mq ad 6)), (1, .ref (mq ad a)), (2, .int (nI k))]) (Or.inl ⟨rfl, rfl⟩) (by decide) htr rfl (Nat.le_of_ble_eq_true rfl) (fun κ hl X => ?_)
  subst hl
  refine g_iconst X (v := nI 0) d_D_gatherAll_0 (by decide) ?_
  refine g_istore_n X 3 d_D_gatherAll_1 rfl (by decide) ?_
  have e := l_D_gAi X htr hinj ha hk h7 h8 (M a).1 0 (M 6) (by omega)
  rw [up_id] at e
  exact g_sb e ⟨rfl, rfl, rfl, rfl, trivial⟩
theorem fl_sh {f : Nat → Mx → Mx} (hf : ∀ i S, (f i S).1 = S.1 ∧ (f i S).2.1 = S.2.1) : ∀ n i S, (fl f i n S).1 = S.1 ∧ (fl f i n S).2.1 = S.2.1
  | 0, _, _ => ⟨rfl, rfl⟩
  | n + 1, i, S => by
    have h := fl_sh hf n (i + 1) (f i S)
    have h2 := hf i S
    exact ⟨h.1.trans h2.1, h.2.trans h2.2⟩
theorem dzj_sh (i j : Nat) (S : Mx) : (dzj i j S).1 = S.1 ∧ (dzj i j S).2.1 = S.2.1 := by
  unfold dzj
  split <;> exact ⟨rfl, rfl⟩
theorem dzi_sh (c i : Nat) (S : Mx) : (dzi c i S).1 = S.1 ∧ (dzi c i S).2.1 = S.2.1 := fl_sh (dzj_sh i) c 0 S
set_option maxHeartbeats 4000000 in
set_option maxRecDepth 100000 in
theorem l_D_dzj {κ : KX} {δ : EX} {ad : Nat → Nat} (X : XO κ R_D b_D_dropZeros 4 none δ (RM 1) (Ar ad) []) (htr : (xl κ).stackTraces = false) (hinj : Inj ad) {M : DS} {P' : OC → va_W → Prop} {i C : Nat} (hi : i < 8) (h8 : C ≤ 8) : ∀ n j S, j + n = C → S.2.1 = C → G κ 4 δ (Kn κ (Ar ad)) (Qe κ δ (Ar ad) P') 0 0 (dl δ ad (va_up M 6 (fl (dzj i) j n S))) [(0, .ref (mq ad 6)), (2, .int (nI i))] [] 62 → G κ 4 δ (Kn κ (Ar ad)) (Qe κ δ (Ar ad) P') 0 0 (dl δ ad (va_up M 6 S)) [(3, .int (nI j)), (0, .ref (mq ad 6)), (2, .int (nI i))] [] 22 := by
  intro n
  induction n with
  | zero =>
    intro j S hj hS hx
    refine g_iload_n X 3 d_D_dropZeros_22 rfl rfl ?_
    refine g_aload_n X 0 d_D_dropZeros_23 rfl rfl ?_
    refine r_cols X kf_D_62 d_D_dropZeros_24 (by omega) ?_
    rw [va_up_s, hS]
    refine g_icmp_ge X 62 d_D_dropZeros_27 (by decide) (fun hc => ?_) (fun hc => ?_)
    · exact g_sb hx ⟨rfl, rfl, trivial⟩
    · exact absurd (nI_le (by omega) (by omega)) hc
  | succ n ih =>
    intro j S hj hS hx
    refine g_iload_n X 3 d_D_dropZeros_22 rfl rfl ?_
    refine g_aload_n X 0 d_D_dropZeros_23 rfl rfl ?_
    refine r_cols X kf_D_62 d_D_dropZeros_24 (by omega) ?_
    rw [va_up_s, hS]
    refine g_icmp_ge X 62 d_D_dropZeros_27 (by decide) (fun hc => ?_) (fun hc => ?_)
    · exact absurd hc (nI_ge (by omega) (by omega))
    · clear hc
      have hs2 := (dzj_sh i j S).2.trans hS
      refine g_aload_n X 0 d_D_dropZeros_30 rfl rfl ?_
      refine g_iload_n X 2 d_D_dropZeros_31 rfl rfl ?_
      refine g_iload_n X 3 d_D_dropZeros_32 rfl rfl ?_
      refine g_VP X KOk.n v_D_43 (dl_m (by omega)) rfl (c_M_has htr (by omega) hi (by omega)) d_D_dropZeros_33 rfl ⟨Nat.le_of_ble_eq_true rfl, Nat.le_of_ble_eq_true rfl, Nat.le_of_ble_eq_true rfl, Nat.le_of_ble_eq_true rfl⟩ ?_
      rw [va_up_s]
      refine g_if_eq X 56 d_D_dropZeros_36 (by decide) (fun hc => ?_) (fun hc => ?_)
      · have h := b2_0.mp hc
        have e : dzj i j S = S := by simp [dzj, h]
        have hx' := hx
        simp only [fl, e] at hx'
        refine g_iinc X d_D_dropZeros_56 rfl (nI_1 _) (by decide) ?_
        refine g_goto X 22 d_D_dropZeros_59 (by decide) ?_
        exact g_sb (ih (j + 1) S (by omega) hS hx') ⟨rfl, rfl, rfl, trivial⟩
      · have h := b2_t hc
        refine g_aload_n X 0 d_D_dropZeros_39 rfl rfl ?_
        refine g_iload_n X 2 d_D_dropZeros_40 rfl rfl ?_
        refine g_iload_n X 3 d_D_dropZeros_41 rfl rfl ?_
        refine g_VP X KOk.n v_D_54 (dl_m (by omega)) rfl (c_M_value htr (by omega) hi (by omega)) d_D_dropZeros_42 rfl ⟨Nat.le_of_ble_eq_true rfl, Nat.le_of_ble_eq_true rfl, Nat.le_of_ble_eq_true rfl, Nat.le_of_ble_eq_true rfl⟩ ?_
        rw [va_up_s]
        refine g_lconst X (v := 0) d_D_dropZeros_45 (by decide) ?_
        refine g_lcmp X d_D_dropZeros_46 ?_
        refine g_if_ne X 56 d_D_dropZeros_47 (by decide) (fun hd => ?_) (fun hd => ?_)
        · have h2 : ¬ mVal S (8 * i + j) = 0 := fun q => hd ((lg_cmp_eq _ _).mpr q)
          have e : dzj i j S = S := by simp [dzj, h2]
          have hx' := hx
          simp only [fl, e] at hx'
          refine g_iinc X d_D_dropZeros_56 rfl (nI_1 _) (by decide) ?_
          refine g_goto X 22 d_D_dropZeros_59 (by decide) ?_
          exact g_sb (ih (j + 1) S (by omega) hS hx') ⟨rfl, rfl, rfl, trivial⟩
        · have h2 := (lg_cmp_eq _ _).mp hd
          have e : dzj i j S = mRem S (8 * i + j) := by simp [dzj, h, h2]
          rw [e] at hs2
          have hx' := hx
          simp only [fl, e] at hx'
          refine g_aload_n X 0 d_D_dropZeros_50 rfl rfl ?_
          refine g_iload_n X 2 d_D_dropZeros_51 rfl rfl ?_
          refine g_iload_n X 3 d_D_dropZeros_52 rfl rfl ?_
          refine g_VN1 X v_D_47 (dl_m (by omega)) rfl (c_M_remove htr hinj (by omega) hi (by omega)) d_D_dropZeros_53 rfl ⟨Nat.le_of_ble_eq_true rfl, Nat.le_of_ble_eq_true rfl, Nat.le_of_ble_eq_true rfl, Nat.le_of_ble_eq_true rfl⟩ ?_
          rw [va_up_s, bx_uu]
          refine g_iinc X d_D_dropZeros_56 rfl (nI_1 _) (by decide) ?_
          refine g_goto X 22 d_D_dropZeros_59 (by decide) ?_
          exact g_sb (ih (j + 1) (mRem S (8 * i + j)) (by omega) hs2 hx') ⟨rfl, rfl, rfl, trivial⟩
set_option maxHeartbeats 4000000 in
set_option maxRecDepth 100000 in
theorem l_D_dzi {κ : KX} {δ : EX} {ad : Nat → Nat} (X : XO κ R_D b_D_dropZeros 4 none δ (RM 1) (Ar ad) []) (htr : (xl κ).stackTraces = false) (hinj : Inj ad) {M : DS} {R C : Nat} (h7 : R ≤ 8) (h8 : C ≤ 8) : ∀ n i S, i + n = R → S.1 = R → S.2.1 = C → G κ 4 δ (Kn κ (Ar ad)) (Qe κ δ (Ar ad) (fun r w => r = .inr none ∧ w = dl δ ad (va_up M 6 (fl (dzi C) i n S)))) 0 0 (dl δ ad (va_up M 6 S)) [(2, .int (nI i)), (0, .ref (mq ad 6))] [] 12 := by
  intro n
  induction n with
  | zero =>
    intro i S hi h1 h2
    refine g_iload_n X 2 d_D_dropZeros_12 rfl rfl ?_
    refine g_aload_n X 0 d_D_dropZeros_13 rfl rfl ?_
    refine r_rows X kf_D_58 d_D_dropZeros_14 (by omega) ?_
    rw [va_up_s, h1]
    refine g_icmp_ge X 68 d_D_dropZeros_17 (by decide) (fun hc => ?_) (fun hc => ?_)
    · exact g_vret X KOk.n d_D_dropZeros_68 ⟨rfl, rfl⟩
    · exact absurd (nI_le (by omega) (by omega)) hc
  | succ n ih =>
    intro i S hi h1 h2
    refine g_iload_n X 2 d_D_dropZeros_12 rfl rfl ?_
    refine g_aload_n X 0 d_D_dropZeros_13 rfl rfl ?_
    refine r_rows X kf_D_58 d_D_dropZeros_14 (by omega) ?_
    rw [va_up_s, h1]
    refine g_icmp_ge X 68 d_D_dropZeros_17 (by decide) (fun hc => ?_) (fun hc => ?_)
    · exact absurd hc (nI_ge (by omega) (by omega))
    · clear hc
      refine g_iconst X (v := nI 0) d_D_dropZeros_20 (by decide) ?_
      refine g_istore_n X 3 d_D_dropZeros_21 rfl (by decide) ?_
      refine g_sb (l_D_dzj X htr hinj (by omega) h8 C 0 S (by omega) h2 ?_) ⟨rfl, rfl, rfl, trivial⟩
      refine g_iinc X d_D_dropZeros_62 rfl (nI_1 _) (by decide) ?_
      refine g_goto X 12 d_D_dropZeros_65 (by decide) ?_
      exact g_sb (ih (i + 1) (dzi C i S) (by omega) ((dzi_sh C i S).1.trans h1) ((dzi_sh C i S).2.trans h2)) ⟨rfl, rfl, trivial⟩
set_option maxHeartbeats 4000000 in
set_option maxRecDepth 100000 in
theorem c_D_dz {l : Launch} (htr : l.stackTraces = false) {δ : EX} {ad : Nat → Nat} {M : DS} (hinj : Inj ad) {k : Nat} (hk : k < 4) (h7 : (M 6).1 ≤ 8) (h8 : (M 6).2.1 ≤ 8) : CTN l y_D_dropZeros cw_D_dropZeros (RM 1) δ (Ar ad) (dl δ ad M) [.ref (mq ad 6), .int (nI k)] none (dl δ ad (va_up M 6 (dz k (M 6)))) := by
  refine CT.ofN (lv := [(0, .ref (mq ad 6)), (1, .int (nI k))]) (Or.inl ⟨rfl, rfl⟩) (by decide) htr rfl (Nat.le_of_ble_eq_true rfl) (fun κ hl X => ?_)
  subst hl
  refine g_iload_n X 1 d_D_dropZeros_0 rfl rfl ?_
  refine g_if_eq X 10 d_D_dropZeros_1 (by decide) (fun hc => ?_) (fun hc => ?_)
  · have hz : dz k (M 6) = fl (dzi (M 6).2.1) 0 (M 6).1 (M 6) := by
      have : k = 0 := (nI_eq (by omega) (by decide)).mp hc
      simp [dz, this]
    refine g_iconst X (v := nI 0) d_D_dropZeros_10 (by decide) ?_
    refine g_istore_n X 2 d_D_dropZeros_11 rfl (by decide) ?_
    have e := l_D_dzi X htr hinj h7 h8 (M 6).1 0 (M 6) (by omega) rfl rfl (M := M)
    rw [up_id] at e
    rw [hz]
    exact g_sb e ⟨rfl, rfl, trivial⟩
  · have h0 : ¬ k = 0 := fun q => hc (by rw [q]; rfl)
    refine g_iload_n X 1 d_D_dropZeros_4 rfl rfl ?_
    refine g_iconst X (v := nI 2) d_D_dropZeros_5 (by decide) ?_
    refine g_icmp_eq X 10 d_D_dropZeros_6 (by decide) (fun hd => ?_) (fun hd => ?_)
    · have hz : dz k (M 6) = fl (dzi (M 6).2.1) 0 (M 6).1 (M 6) := by
        have : k = 2 := (nI_eq (by omega) (by decide)).mp hd
        simp [dz, this]
      refine g_iconst X (v := nI 0) d_D_dropZeros_10 (by decide) ?_
      refine g_istore_n X 2 d_D_dropZeros_11 rfl (by decide) ?_
      have e := l_D_dzi X htr hinj h7 h8 (M 6).1 0 (M 6) (by omega) rfl rfl (M := M)
      rw [up_id] at e
      rw [hz]
      exact g_sb e ⟨rfl, rfl, trivial⟩
    · have h2 : ¬ k = 2 := fun q => hd (by rw [q])
      exact g_vret X KOk.n d_D_dropZeros_9 ⟨rfl, by simp [dz, h0, h2, up_id]⟩
set_option maxHeartbeats 4000000 in
set_option maxRecDepth 100000 in
theorem c_D_blank {l : Launch} (htr : l.stackTraces = false) {δ : EX} {ad : Nat → Nat} {M : DS} (hinj : Inj ad) {x y : Nat} : CTN l y_D_blank cw_D_blank (RM 1) δ (Ar ad) (dl δ ad M) [.ref (ad 0), .int (nI x), .int (nI y)] (some (.ref (mq ad 6))) (dl δ ad (va_up M 6 (mClear (M 6) x y))) := by
  refine CT.ofN (lv := [(0, .ref (ad 0)), (1, .int (nI x)), (2, .int (nI y))]) (Or.inl ⟨rfl, rfl⟩) (by decide) htr rfl (Nat.le_of_ble_eq_true rfl) (fun κ hl X => ?_)
  subst hl
  refine g_aload_n X 0 d_D_blank_0 rfl rfl ?_
  refine r_spare X d_D_blank_1 ?_
  refine g_iload_n X 1 d_D_blank_4 rfl rfl ?_
  refine g_iload_n X 2 d_D_blank_5 rfl rfl ?_
  refine g_VN1 X v_D_27 (dl_m (by omega)) rfl (c_M_clear htr hinj (by omega)) d_D_blank_6 rfl ⟨Nat.le_of_ble_eq_true rfl, Nat.le_of_ble_eq_true rfl, Nat.le_of_ble_eq_true rfl, Nat.le_of_ble_eq_true rfl⟩ ?_
  refine g_aload_n X 0 d_D_blank_9 rfl rfl ?_
  refine r_spare X d_D_blank_10 ?_
  exact g_aret X KOk.n d_D_blank_13 ⟨rfl, rfl⟩
end GB2
