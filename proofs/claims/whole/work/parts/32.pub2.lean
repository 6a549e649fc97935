section PB
/-- the desk when the spare matrix S has become the register to -/
def KW (δ : EX) (ad : Nat → Nat) (to : Nat) (M : DS) (S : Mx) : va_W := dl δ (fun i => ad (swB to i)) (fun k => va_up M 6 S (sw to k))
def PS (δ : EX) (ad : Nat → Nat) (M : DS) (to : Nat) (o : Option Mx) : OC → va_W → Prop := fun r w => (∃ S, o = some S ∧ r = .inr (some (.int (nI (cnt S.2.2.2 64)))) ∧ w = KW δ ad to M S) ∨ (o = none ∧ r = .inl 4 ∧ ∃ S, w = dl δ ad (va_up M 6 S))
def sej (h : Nat) (x : Int64) (F : Mx) (i j : Nat) (S : Mx) : Mx := if mHas F (8 * i + j) = true ∧ seB h i j (mVal F (8 * i + j)) x = true then mEnter S (8 * i + j) (mVal F (8 * i + j)) else S
def sei (h : Nat) (x : Int64) (F : Mx) (i : Nat) (S : Mx) : Mx := fl (sej h x F i) 0 F.2.1 S
def rdj (k : Nat) (F : Mx) (i j : Nat) (S : Mx) : Option Mx := if mHas F (8 * i + j) = true then gaS k S (8 * 0 + 0) (mVal F (8 * i + j)) else some S
def rdi (k : Nat) (F : Mx) (i : Nat) (S : Mx) : Option Mx := fo (rdj k F i) 0 F.2.1 S
set_option maxHeartbeats 4000000 in
set_option maxRecDepth 100000 in
theorem l_D_tr_j {κ : KX} {δ : EX} {ad : Nat → Nat} (X : XO κ R_D b_D_transpose 7 (some .int) δ (RM 2) (Ar ad) []) (htr : (xl κ).stackTraces = false) (hinj : Inj ad) {M : DS} {P' : OC → va_W → Prop} {a to : Nat} (ha : a < 6) (h7 : (M a).1 ≤ 8) (h8 : (M a).2.1 ≤ 8) {i : Nat} (hi : i < 8) : ∀ n j S, j + n = (M a).2.1 → G κ 7 δ (Kn κ (Ar ad)) (Qe κ δ (Ar ad) P') 0 0 (dl δ ad (va_up M 6 (fl (trj (M a) i) j n S))) [(5, .int (nI i)), (0, .ref (ad 0)), (1, .int (nI to)), (3, .ref (mq ad a)), (4, .ref (mq ad 6))] [] 87 → G κ 7 δ (Kn κ (Ar ad)) (Qe κ δ (Ar ad) P') 0 0 (dl δ ad (va_up M 6 S)) [(6, .int (nI j)), (5, .int (nI i)), (0, .ref (ad 0)), (1, .int (nI to)), (3, .ref (mq ad a)), (4, .ref (mq ad 6))] [] 44 := by
  intro n
  induction n with
  | zero =>
    intro j S hj hx
    refine g_iload X d_D_transpose_44 rfl ?_
    refine g_aload_n X 3 d_D_transpose_46 rfl rfl ?_
    refine r_cols X kf_D_62 d_D_transpose_47 (by omega) ?_
    rw [va_up6 ha]
    refine g_icmp_ge X 87 d_D_transpose_50 (by decide) (fun hc => ?_) (fun hc => ?_)
    · exact g_sb hx ⟨rfl, rfl, rfl, rfl, rfl, trivial⟩
    · exact absurd (nI_le (by omega) (by omega)) hc
  | succ n ih =>
    intro j S hj hx
    refine g_iload X d_D_transpose_44 rfl ?_
    refine g_aload_n X 3 d_D_transpose_46 rfl rfl ?_
    refine r_cols X kf_D_62 d_D_transpose_47 (by omega) ?_
    rw [va_up6 ha]
    refine g_icmp_ge X 87 d_D_transpose_50 (by decide) (fun hc => ?_) (fun hc => ?_)
    · exact absurd hc (nI_ge (by omega) (by omega))
    · clear hc
      refine g_aload_n X 3 d_D_transpose_53 rfl rfl ?_
      refine g_iload X d_D_transpose_54 rfl ?_
      refine g_iload X d_D_transpose_56 rfl ?_
      refine g_VP X KOk.n v_D_43 (dl_m (by omega)) rfl (c_M_has htr (by omega) hi (by omega)) d_D_transpose_58 rfl ⟨Nat.le_of_ble_eq_true rfl, Nat.le_of_ble_eq_true rfl, Nat.le_of_ble_eq_true rfl, Nat.le_of_ble_eq_true rfl⟩ ?_
      rw [va_up6 ha]
      refine g_if_eq X 81 d_D_transpose_61 (by decide) (fun hc => ?_) (fun hc => ?_)
      · have h := b2_0.mp hc
        have e : trj (M a) i j S = S := by simp [trj, h]
        simp only [fl, e] at hx
        refine g_iinc X d_D_transpose_81 rfl (nI_1 _) (by decide) ?_
        refine g_goto X 44 d_D_transpose_84 (by decide) ?_
        exact g_sb (ih (j + 1) S (by omega) hx) ⟨rfl, rfl, rfl, rfl, rfl, rfl, trivial⟩
      · have h := b2_t hc
        have e : trj (M a) i j S = mEnter S (8 * j + i) (mVal (M a) (8 * i + j)) := by simp [trj, h]
        simp only [fl, e] at hx
        refine g_aload X d_D_transpose_64 rfl ?_
        refine g_iload X d_D_transpose_66 rfl ?_
        refine g_iload X d_D_transpose_68 rfl ?_
        refine g_aload_n X 3 d_D_transpose_70 rfl rfl ?_
        refine g_iload X d_D_transpose_71 rfl ?_
        refine g_iload X d_D_transpose_73 rfl ?_
        refine g_VP X KOk.n v_D_54 (dl_m (by omega)) rfl (c_M_value htr (by omega) hi (by omega)) d_D_transpose_75 rfl ⟨Nat.le_of_ble_eq_true rfl, Nat.le_of_ble_eq_true rfl, Nat.le_of_ble_eq_true rfl, Nat.le_of_ble_eq_true rfl⟩ ?_
        rw [va_up6 ha]
        refine g_VN1 X v_D_39 (dl_m (by omega)) rfl (c_M_enter htr hinj (by omega) (by omega) hi) d_D_transpose_78 rfl ⟨Nat.le_of_ble_eq_true rfl, Nat.le_of_ble_eq_true rfl, Nat.le_of_ble_eq_true rfl, Nat.le_of_ble_eq_true rfl⟩ ?_
        rw [va_up_s, bx_uu]
        refine g_iinc X d_D_transpose_81 rfl (nI_1 _) (by decide) ?_
        refine g_goto X 44 d_D_transpose_84 (by decide) ?_
        exact g_sb (ih (j + 1) _ (by omega) hx) ⟨rfl, rfl, rfl, rfl, rfl, rfl, trivial⟩
set_option maxHeartbeats 4000000 in
set_option maxRecDepth 100000 in
theorem l_D_tr_i {κ : KX} {δ : EX} {ad : Nat → Nat} (X : XO κ R_D b_D_transpose 7 (some .int) δ (RM 2) (Ar ad) []) (htr : (xl κ).stackTraces = false) (hinj : Inj ad) {M : DS} {P' : OC → va_W → Prop} {a to : Nat} (ha : a < 6) (h7 : (M a).1 ≤ 8) (h8 : (M a).2.1 ≤ 8) : ∀ n i S, i + n = (M a).1 → G κ 7 δ (Kn κ (Ar ad)) (Qe κ δ (Ar ad) P') 0 0 (dl δ ad (va_up M 6 (fl (tri (M a)) i n S))) [(0, .ref (ad 0)), (1, .int (nI to)), (3, .ref (mq ad a)), (4, .ref (mq ad 6))] [] 93 → G κ 7 δ (Kn κ (Ar ad)) (Qe κ δ (Ar ad) P') 0 0 (dl δ ad (va_up M 6 S)) [(5, .int (nI i)), (0, .ref (ad 0)), (1, .int (nI to)), (3, .ref (mq ad a)), (4, .ref (mq ad 6))] [] 32 := by
  intro n
  induction n with
  | zero =>
    intro i S hi hx
    refine g_iload X d_D_transpose_32 rfl ?_
    refine g_aload_n X 3 d_D_transpose_34 rfl rfl ?_
    refine r_rows X kf_D_58 d_D_transpose_35 (by omega) ?_
    rw [va_up6 ha]
    refine g_icmp_ge X 93 d_D_transpose_38 (by decide) (fun hc => ?_) (fun hc => ?_)
    · exact g_sb hx ⟨rfl, rfl, rfl, rfl, trivial⟩
    · exact absurd (nI_le (by omega) (by omega)) hc
  | succ n ih =>
    intro i S hi hx
    refine g_iload X d_D_transpose_32 rfl ?_
    refine g_aload_n X 3 d_D_transpose_34 rfl rfl ?_
    refine r_rows X kf_D_58 d_D_transpose_35 (by omega) ?_
    rw [va_up6 ha]
    refine g_icmp_ge X 93 d_D_transpose_38 (by decide) (fun hc => ?_) (fun hc => ?_)
    · exact absurd hc (nI_ge (by omega) (by omega))
    · clear hc
      refine g_iconst X (v := nI 0) d_D_transpose_41 (by decide) ?_
      refine g_istore X d_D_transpose_42 (by decide) ?_
      refine g_sb (l_D_tr_j X htr hinj ha h7 h8 (by omega) (M a).2.1 0 S (by omega) ?_) ⟨rfl, rfl, rfl, rfl, rfl, rfl, trivial⟩
      refine g_iinc X d_D_transpose_87 rfl (nI_1 _) (by decide) ?_
      refine g_goto X 32 d_D_transpose_90 (by decide) ?_
      exact g_sb (ih (i + 1) _ (by omega) hx) ⟨rfl, rfl, rfl, rfl, rfl, trivial⟩
set_option maxHeartbeats 4000000 in
set_option maxRecDepth 100000 in
theorem c_D_transpose {l : Launch} (htr : l.stackTraces = false) {δ : EX} {ad : Nat → Nat} {M : DS} (hinj : Inj ad) {to a : Nat} (hto : to < 6) (ha : a < 6) (h7 : (M a).1 ≤ 8) (h8 : (M a).2.1 ≤ 8) : CTN l y_D_transpose cw_D_transpose (RM 2) δ (Ar ad) (dl δ ad M) [.ref (ad 0), .int (nI to), .int (nI a)] (some (.int (nI (cnt (tr (M a) (mClear (M 6) (M a).2.1 (M a).1)).2.2.2 64)))) (KW δ ad to M (tr (M a) (mClear (M 6) (M a).2.1 (M a).1))) := by
  refine CT.ofN (lv := [(0, .ref (ad 0)), (1, .int (nI to)), (2, .int (nI a))]) (Or.inl ⟨rfl, rfl⟩) (by decide) htr rfl (Nat.le_of_ble_eq_true rfl) (fun κ hl X => ?_)
  subst hl
  refine g_iload_n X 1 d_D_transpose_0 rfl rfl ?_
  refine g_SP X KOk.n s_D_20 (c_D_reqReg htr hto) d_D_transpose_1 rfl ⟨Nat.le_of_ble_eq_true rfl, Nat.le_of_ble_eq_true rfl, Nat.le_of_ble_eq_true rfl, Nat.le_of_ble_eq_true rfl⟩ ?_
  refine g_iload_n X 2 d_D_transpose_4 rfl rfl ?_
  refine g_SP X KOk.n s_D_20 (c_D_reqReg htr ha) d_D_transpose_5 rfl ⟨Nat.le_of_ble_eq_true rfl, Nat.le_of_ble_eq_true rfl, Nat.le_of_ble_eq_true rfl, Nat.le_of_ble_eq_true rfl⟩ ?_
  refine g_aload_n X 0 d_D_transpose_8 rfl rfl ?_
  refine r_regs X d_D_transpose_9 ?_
  refine g_iload_n X 2 d_D_transpose_12 rfl rfl ?_
  refine r_aald X rfl (by omega) d_D_transpose_13 ?_
  refine g_astore_n X 3 d_D_transpose_14 rfl (by decide) ?_
  refine g_aload_n X 0 d_D_transpose_15 rfl rfl ?_
  refine g_aload_n X 3 d_D_transpose_16 rfl rfl ?_
  refine r_cols X kf_D_62 d_D_transpose_17 (by omega) ?_
  refine g_aload_n X 3 d_D_transpose_20 rfl rfl ?_
  refine r_rows X kf_D_58 d_D_transpose_21 (by omega) ?_
  refine g_VN1 X v_D_85 (dl_0) rfl (c_D_blank htr hinj) d_D_transpose_24 rfl ⟨Nat.le_of_ble_eq_true rfl, Nat.le_of_ble_eq_true rfl, Nat.le_of_ble_eq_true rfl, Nat.le_of_ble_eq_true rfl⟩ ?_
  refine g_astore X d_D_transpose_27 (by decide) ?_
  refine g_iconst X (v := nI 0) d_D_transpose_29 (by decide) ?_
  refine g_istore X d_D_transpose_30 (by decide) ?_
  refine g_sb (l_D_tr_i X htr hinj ha h7 h8 (M a).1 0 (mClear (M 6) (M a).2.1 (M a).1) (by omega) ?_) ⟨rfl, rfl, rfl, rfl, rfl, trivial⟩
  refine g_aload_n X 0 d_D_transpose_93 rfl rfl ?_
  refine g_iload_n X 1 d_D_transpose_94 rfl rfl ?_
  have hK := c_D_keep htr hinj (δ := δ) (M := va_up M 6 (fl (tri (M a)) 0 (M a).1 (mClear (M 6) (M a).2.1 (M a).1))) hto
  rw [va_up_s] at hK
  refine g_VN1 X v_D_101 (dl_0) rfl (hK) d_D_transpose_95 rfl ⟨Nat.le_of_ble_eq_true rfl, Nat.le_of_ble_eq_true rfl, Nat.le_of_ble_eq_true rfl, Nat.le_of_ble_eq_true rfl⟩ ?_
  exact g_iret X KOk.n d_D_transpose_98 ⟨rfl, rfl⟩
set_option maxHeartbeats 4000000 in
set_option maxRecDepth 100000 in
theorem c_D_transpose_x {l : Launch} (htr : l.stackTraces = false) {δ : EX} {ad : Nat → Nat} {M : DS} {x y : Int32} (h : bR x ∨ bR y) : CTP l y_D_transpose cw_D_transpose (RM 2) δ (dl δ ad M) [.ref (ad 0), .int x, .int y] (.inl 1) := by
  refine CT.ofP (lv := [(0, .ref (ad 0)), (1, .int x), (2, .int y)]) (Or.inl ⟨rfl, rfl⟩) (by decide) htr rfl (Nat.le_of_ble_eq_true rfl) (fun κ hl X => ?_)
  subst hl
  refine g_iload_n X 1 d_D_transpose_0 rfl rfl ?_
  rcases bR_or x with hb | ⟨r, hr, rfl⟩
  · exact g_ST X KOk.p s_D_20 (c_D_reqReg_x htr hb) d_D_transpose_1 rfl ⟨Nat.le_of_ble_eq_true rfl, Nat.le_of_ble_eq_true rfl, Nat.le_of_ble_eq_true rfl, Nat.le_of_ble_eq_true rfl⟩ ⟨rfl, rfl⟩
  refine g_SP X KOk.p s_D_20 (c_D_reqReg htr hr) d_D_transpose_1 rfl ⟨Nat.le_of_ble_eq_true rfl, Nat.le_of_ble_eq_true rfl, Nat.le_of_ble_eq_true rfl, Nat.le_of_ble_eq_true rfl⟩ ?_
  refine g_iload_n X 2 d_D_transpose_4 rfl rfl ?_
  rcases h with h | h
  · exact absurd h (bR_no hr)
  · exact g_ST X KOk.p s_D_20 (c_D_reqReg_x htr h) d_D_transpose_5 rfl ⟨Nat.le_of_ble_eq_true rfl, Nat.le_of_ble_eq_true rfl, Nat.le_of_ble_eq_true rfl, Nat.le_of_ble_eq_true rfl⟩ ⟨rfl, rfl⟩
set_option maxHeartbeats 4000000 in
set_option maxRecDepth 100000 in
theorem l_D_se_j {κ : KX} {δ : EX} {ad : Nat → Nat} (X : XO κ R_D b_D_select 10 (some .int) δ (RM 2) (Ar ad) []) (htr : (xl κ).stackTraces = false) (hinj : Inj ad) {M : DS} {P' : OC → va_W → Prop} {a to hw : Nat} {x : Int64} (ha : a < 6) (h7 : (M a).1 ≤ 8) (h8 : (M a).2.1 ≤ 8) (hhw : hw ≤ 4) {i : Nat} (hi : i < 8) : ∀ n j S, j + n = (M a).2.1 → G κ 10 δ (Kn κ (Ar ad)) (Qe κ δ (Ar ad) P') 0 0 (dl δ ad (va_up M 6 (fl (sej hw x (M a) i) j n S))) [(8, .int (nI i)), (0, .ref (ad 0)), (1, .int (nI to)), (3, .int (nI hw)), (4, .long x), (6, .ref (mq ad a)), (7, .ref (mq ad 6))] [] 121 → G κ 10 δ (Kn κ (Ar ad)) (Qe κ δ (Ar ad) P') 0 0 (dl δ ad (va_up M 6 S)) [(9, .int (nI j)), (8, .int (nI i)), (0, .ref (ad 0)), (1, .int (nI to)), (3, .int (nI hw)), (4, .long x), (6, .ref (mq ad a)), (7, .ref (mq ad 6))] [] 53 := by
  intro n
  induction n with
  | zero =>
    intro j S hj hx
    refine g_iload X d_D_select_53 rfl ?_
    refine g_aload X d_D_select_55 rfl ?_
    refine r_cols X kf_D_62 d_D_select_57 (by omega) ?_
    rw [va_up6 ha]
    refine g_icmp_ge X 121 d_D_select_60 (by decide) (fun hc => ?_) (fun hc => ?_)
    · exact g_sb hx ⟨rfl, rfl, rfl, rfl, rfl, rfl, rfl, trivial⟩
    · exact absurd (nI_le (by omega) (by omega)) hc
  | succ n ih =>
    intro j S hj hx
    refine g_iload X d_D_select_53 rfl ?_
    refine g_aload X d_D_select_55 rfl ?_
    refine r_cols X kf_D_62 d_D_select_57 (by omega) ?_
    rw [va_up6 ha]
    refine g_icmp_ge X 121 d_D_select_60 (by decide) (fun hc => ?_) (fun hc => ?_)
    · exact absurd hc (nI_ge (by omega) (by omega))
    · clear hc
      refine g_aload X d_D_select_63 rfl ?_
      refine g_iload X d_D_select_65 rfl ?_
      refine g_iload X d_D_select_67 rfl ?_
      refine g_VP X KOk.n v_D_43 (dl_m (by omega)) rfl (c_M_has htr (by omega) hi (by omega)) d_D_select_69 rfl ⟨Nat.le_of_ble_eq_true rfl, Nat.le_of_ble_eq_true rfl, Nat.le_of_ble_eq_true rfl, Nat.le_of_ble_eq_true rfl⟩ ?_
      rw [va_up6 ha]
      refine g_if_eq X 115 d_D_select_72 (by decide) (fun hc => ?_) (fun hc => ?_)
      · have h := b2_0.mp hc
        have e : sej hw x (M a) i j S = S := by simp [sej, h]
        simp only [fl, e] at hx
        refine g_iinc X d_D_select_115 rfl (nI_1 _) (by decide) ?_
        refine g_goto X 53 d_D_select_118 (by decide) ?_
        exact g_sb (ih (j + 1) S (by omega) hx) ⟨rfl, rfl, rfl, rfl, rfl, rfl, rfl, rfl, trivial⟩
      · have h := b2_t hc
        refine g_iload_n X 3 d_D_select_75 rfl rfl ?_
        refine g_iload X d_D_select_76 rfl ?_
        refine g_iload X d_D_select_78 rfl ?_
        refine g_aload X d_D_select_80 rfl ?_
        refine g_iload X d_D_select_82 rfl ?_
        refine g_iload X d_D_select_84 rfl ?_
        refine g_VP X KOk.n v_D_54 (dl_m (by omega)) rfl (c_M_value htr (by omega) hi (by omega)) d_D_select_86 rfl ⟨Nat.le_of_ble_eq_true rfl, Nat.le_of_ble_eq_true rfl, Nat.le_of_ble_eq_true rfl, Nat.le_of_ble_eq_true rfl⟩ ?_
        rw [va_up6 ha]
        refine g_lload X d_D_select_89 rfl ?_
        refine g_SP X KOk.n s_D_112 (c_D_isSel htr hhw hi (by omega)) d_D_select_91 rfl ⟨Nat.le_of_ble_eq_true rfl, Nat.le_of_ble_eq_true rfl, Nat.le_of_ble_eq_true rfl, Nat.le_of_ble_eq_true rfl⟩ ?_
        refine g_if_eq X 115 d_D_select_94 (by decide) (fun hd => ?_) (fun hd => ?_)
        · have h2 := b2_0.mp hd
          have e : sej hw x (M a) i j S = S := by simp [sej, h2]
          simp only [fl, e] at hx
          refine g_iinc X d_D_select_115 rfl (nI_1 _) (by decide) ?_
          refine g_goto X 53 d_D_select_118 (by decide) ?_
          exact g_sb (ih (j + 1) S (by omega) hx) ⟨rfl, rfl, rfl, rfl, rfl, rfl, rfl, rfl, trivial⟩
        · have h2 := b2_t hd
          have e : sej hw x (M a) i j S = mEnter S (8 * i + j) (mVal (M a) (8 * i + j)) := by simp [sej, h, h2]
          simp only [fl, e] at hx
          refine g_aload X d_D_select_97 rfl ?_
          refine g_iload X d_D_select_99 rfl ?_
          refine g_iload X d_D_select_101 rfl ?_
          refine g_aload X d_D_select_103 rfl ?_
          refine g_iload X d_D_select_105 rfl ?_
          refine g_iload X d_D_select_107 rfl ?_
          refine g_VP X KOk.n v_D_54 (dl_m (by omega)) rfl (c_M_value htr (by omega) hi (by omega)) d_D_select_109 rfl ⟨Nat.le_of_ble_eq_true rfl, Nat.le_of_ble_eq_true rfl, Nat.le_of_ble_eq_true rfl, Nat.le_of_ble_eq_true rfl⟩ ?_
          rw [va_up6 ha]
          refine g_VN1 X v_D_39 (dl_m (by omega)) rfl (c_M_enter htr hinj (by omega) hi (by omega)) d_D_select_112 rfl ⟨Nat.le_of_ble_eq_true rfl, Nat.le_of_ble_eq_true rfl, Nat.le_of_ble_eq_true rfl, Nat.le_of_ble_eq_true rfl⟩ ?_
          rw [va_up_s, bx_uu]
          refine g_iinc X d_D_select_115 rfl (nI_1 _) (by decide) ?_
          refine g_goto X 53 d_D_select_118 (by decide) ?_
          exact g_sb (ih (j + 1) _ (by omega) hx) ⟨rfl, rfl, rfl, rfl, rfl, rfl, rfl, rfl, trivial⟩
set_option maxHeartbeats 4000000 in
set_option maxRecDepth 100000 in
theorem l_D_se_i {κ : KX} {δ : EX} {ad : Nat → Nat} (X : XO κ R_D b_D_select 10 (some .int) δ (RM 2) (Ar ad) []) (htr : (xl κ).stackTraces = false) (hinj : Inj ad) {M : DS} {P' : OC → va_W → Prop} {a to hw : Nat} {x : Int64} (ha : a < 6) (h7 : (M a).1 ≤ 8) (h8 : (M a).2.1 ≤ 8) (hhw : hw ≤ 4) : ∀ n i S, i + n = (M a).1 → G κ 10 δ (Kn κ (Ar ad)) (Qe κ δ (Ar ad) P') 0 0 (dl δ ad (va_up M 6 (fl (sei hw x (M a)) i n S))) [(0, .ref (ad 0)), (1, .int (nI to)), (3, .int (nI hw)), (4, .long x), (6, .ref (mq ad a)), (7, .ref (mq ad 6))] [] 127 → G κ 10 δ (Kn κ (Ar ad)) (Qe κ δ (Ar ad) P') 0 0 (dl δ ad (va_up M 6 S)) [(8, .int (nI i)), (0, .ref (ad 0)), (1, .int (nI to)), (3, .int (nI hw)), (4, .long x), (6, .ref (mq ad a)), (7, .ref (mq ad 6))] [] 40 := by
  intro n
  induction n with
  | zero =>
    intro i S hi hx
    refine g_iload X d_D_select_40 rfl ?_
    refine g_aload X d_D_select_42 rfl ?_
    refine r_rows X kf_D_58 d_D_select_44 (by omega) ?_
    rw [va_up6 ha]
    refine g_icmp_ge X 127 d_D_select_47 (by decide) (fun hc => ?_) (fun hc => ?_)
    · exact g_sb hx ⟨rfl, rfl, rfl, rfl, rfl, rfl, trivial⟩
    · exact absurd (nI_le (by omega) (by omega)) hc
  | succ n ih =>
    intro i S hi hx
    refine g_iload X d_D_select_40 rfl ?_
    refine g_aload X d_D_select_42 rfl ?_
    refine r_rows X kf_D_58 d_D_select_44 (by omega) ?_
    rw [va_up6 ha]
    refine g_icmp_ge X 127 d_D_select_47 (by decide) (fun hc => ?_) (fun hc => ?_)
    · exact absurd hc (nI_ge (by omega) (by omega))
    · clear hc
      refine g_iconst X (v := nI 0) d_D_select_50 (by decide) ?_
      refine g_istore X d_D_select_51 (by decide) ?_
      refine g_sb (l_D_se_j X htr hinj ha h7 h8 hhw (by omega) (M a).2.1 0 S (by omega) ?_) ⟨rfl, rfl, rfl, rfl, rfl, rfl, rfl, rfl, trivial⟩
      refine g_iinc X d_D_select_121 rfl (nI_1 _) (by decide) ?_
      refine g_goto X 40 d_D_select_124 (by decide) ?_
      exact g_sb (ih (i + 1) _ (by omega) hx) ⟨rfl, rfl, rfl, rfl, rfl, rfl, rfl, trivial⟩
set_option maxHeartbeats 4000000 in
set_option maxRecDepth 100000 in
theorem c_D_select {l : Launch} (htr : l.stackTraces = false) {δ : EX} {ad : Nat → Nat} {M : DS} (hinj : Inj ad) {to a hw : Nat} {x : Int64} (hto : to < 6) (ha : a < 6) (h7 : (M a).1 ≤ 8) (h8 : (M a).2.1 ≤ 8) (hhw : hw ≤ 4) : CTN l y_D_select cw_D_select (RM 2) δ (Ar ad) (dl δ ad M) [.ref (ad 0), .int (nI to), .int (nI a), .int (nI hw), .long x] (some (.int (nI (cnt (fl (sei hw x (M a)) 0 (M a).1 (mClear (M 6) (M a).1 (M a).2.1)).2.2.2 64)))) (KW δ ad to M (fl (sei hw x (M a)) 0 (M a).1 (mClear (M 6) (M a).1 (M a).2.1))) := by
  refine CT.ofN (lv := [(0, .ref (ad 0)), (1, .int (nI to)), (2, .int (nI a)), (3, .int (nI hw)), (4, .long x)]) (Or.inl ⟨rfl, rfl⟩) (by decide) htr rfl (Nat.le_of_ble_eq_true rfl) (fun κ hl X => ?_)
  subst hl
  refine g_iload_n X 1 d_D_select_0 rfl rfl ?_
  refine g_SP X KOk.n s_D_20 (c_D_reqReg htr hto) d_D_select_1 rfl ⟨Nat.le_of_ble_eq_true rfl, Nat.le_of_ble_eq_true rfl, Nat.le_of_ble_eq_true rfl, Nat.le_of_ble_eq_true rfl⟩ ?_
  refine g_iload_n X 2 d_D_select_4 rfl rfl ?_
  refine g_SP X KOk.n s_D_20 (c_D_reqReg htr ha) d_D_select_5 rfl ⟨Nat.le_of_ble_eq_true rfl, Nat.le_of_ble_eq_true rfl, Nat.le_of_ble_eq_true rfl, Nat.le_of_ble_eq_true rfl⟩ ?_
  refine g_iload_n X 3 d_D_select_8 rfl rfl ?_
  refine g_iconst X (v := nI 4) d_D_select_9 (by decide) ?_
  refine g_SP X KOk.n s_D_76 (c_D_reqHow htr hhw (by decide)) d_D_select_10 rfl ⟨Nat.le_of_ble_eq_true rfl, Nat.le_of_ble_eq_true rfl, Nat.le_of_ble_eq_true rfl, Nat.le_of_ble_eq_true rfl⟩ ?_
  refine g_aload_n X 0 d_D_select_13 rfl rfl ?_
  refine r_regs X d_D_select_14 ?_
  refine g_iload_n X 2 d_D_select_17 rfl rfl ?_
  refine r_aald X rfl (by omega) d_D_select_18 ?_
  refine g_astore X d_D_select_19 (by decide) ?_
  refine g_aload_n X 0 d_D_select_21 rfl rfl ?_
  refine g_aload X d_D_select_22 rfl ?_
  refine r_rows X kf_D_58 d_D_select_24 (by omega) ?_
  refine g_aload X d_D_select_27 rfl ?_
  refine r_cols X kf_D_62 d_D_select_29 (by omega) ?_
  refine g_VN1 X v_D_85 (dl_0) rfl (c_D_blank htr hinj) d_D_select_32 rfl ⟨Nat.le_of_ble_eq_true rfl, Nat.le_of_ble_eq_true rfl, Nat.le_of_ble_eq_true rfl, Nat.le_of_ble_eq_true rfl⟩ ?_
  refine g_astore X d_D_select_35 (by decide) ?_
  refine g_iconst X (v := nI 0) d_D_select_37 (by decide) ?_
  refine g_istore X d_D_select_38 (by decide) ?_
  refine g_sb (l_D_se_i X htr hinj ha h7 h8 hhw (M a).1 0 (mClear (M 6) (M a).1 (M a).2.1) (by omega) ?_) ⟨rfl, rfl, rfl, rfl, rfl, rfl, rfl, trivial⟩
  refine g_aload_n X 0 d_D_select_127 rfl rfl ?_
  refine g_iload_n X 1 d_D_select_128 rfl rfl ?_
  have hK := c_D_keep htr hinj (δ := δ) (M := va_up M 6 (fl (sei hw x (M a)) 0 (M a).1 (mClear (M 6) (M a).1 (M a).2.1))) hto
  rw [va_up_s] at hK
  refine g_VN1 X v_D_101 (dl_0) rfl (hK) d_D_select_129 rfl ⟨Nat.le_of_ble_eq_true rfl, Nat.le_of_ble_eq_true rfl, Nat.le_of_ble_eq_true rfl, Nat.le_of_ble_eq_true rfl⟩ ?_
  exact g_iret X KOk.n d_D_select_132 ⟨rfl, rfl⟩
set_option maxHeartbeats 4000000 in
set_option maxRecDepth 100000 in
theorem c_D_select_x {l : Launch} (htr : l.stackTraces = false) {δ : EX} {ad : Nat → Nat} {M : DS} {x y q : Int32} {z : Int64} (h : bR x ∨ bR y ∨ bH 4 q) : CTP l y_D_select cw_D_select (RM 2) δ (dl δ ad M) [.ref (ad 0), .int x, .int y, .int q, .long z] (.inl 1) := by
  refine CT.ofP (lv := [(0, .ref (ad 0)), (1, .int x), (2, .int y), (3, .int q), (4, .long z)]) (Or.inl ⟨rfl, rfl⟩) (by decide) htr rfl (Nat.le_of_ble_eq_true rfl) (fun κ hl X => ?_)
  subst hl
  refine g_iload_n X 1 d_D_select_0 rfl rfl ?_
  rcases bR_or x with hb | ⟨r, hr, rfl⟩
  · exact g_ST X KOk.p s_D_20 (c_D_reqReg_x htr hb) d_D_select_1 rfl ⟨Nat.le_of_ble_eq_true rfl, Nat.le_of_ble_eq_true rfl, Nat.le_of_ble_eq_true rfl, Nat.le_of_ble_eq_true rfl⟩ ⟨rfl, rfl⟩
  refine g_SP X KOk.p s_D_20 (c_D_reqReg htr hr) d_D_select_1 rfl ⟨Nat.le_of_ble_eq_true rfl, Nat.le_of_ble_eq_true rfl, Nat.le_of_ble_eq_true rfl, Nat.le_of_ble_eq_true rfl⟩ ?_
  refine g_iload_n X 2 d_D_select_4 rfl rfl ?_
  rcases bR_or y with hb | ⟨r2, hr2, rfl⟩
  · exact g_ST X KOk.p s_D_20 (c_D_reqReg_x htr hb) d_D_select_5 rfl ⟨Nat.le_of_ble_eq_true rfl, Nat.le_of_ble_eq_true rfl, Nat.le_of_ble_eq_true rfl, Nat.le_of_ble_eq_true rfl⟩ ⟨rfl, rfl⟩
  refine g_SP X KOk.p s_D_20 (c_D_reqReg htr hr2) d_D_select_5 rfl ⟨Nat.le_of_ble_eq_true rfl, Nat.le_of_ble_eq_true rfl, Nat.le_of_ble_eq_true rfl, Nat.le_of_ble_eq_true rfl⟩ ?_
  refine g_iload_n X 3 d_D_select_8 rfl rfl ?_
  refine g_iconst X (v := nI 4) d_D_select_9 (by decide) ?_
  rcases h with h | h | h
  · exact absurd h (bR_no hr)
  · exact absurd h (bR_no hr2)
  · exact g_ST X KOk.p s_D_76 (c_D_reqHow_x htr h) d_D_select_10 rfl ⟨Nat.le_of_ble_eq_true rfl, Nat.le_of_ble_eq_true rfl, Nat.le_of_ble_eq_true rfl, Nat.le_of_ble_eq_true rfl⟩ ⟨rfl, rfl⟩
set_option maxHeartbeats 4000000 in
set_option maxRecDepth 100000 in
theorem c_D_add {l : Launch} (htr : l.stackTraces = false) {δ : EX} {ad : Nat → Nat} {M : DS} (hinj : Inj ad) {to a b k : Nat} (hto : to < 6) (ha : a < 6) (hb : b < 6) (hk : k < 4) (hM : ∀ k, k < 6 → (M k).1 ≤ 8 ∧ (M k).2.1 ≤ 8) (hs : (M a).1 = (M b).1 ∧ (M a).2.1 = (M b).2.1) : CT l y_D_add cw_D_add (RM 5) δ (Ar ad) (dl δ ad M) [.ref (ad 0), .int (nI to), .int (nI a), .int (nI b), .int (nI k)] (PS δ ad M to (((gA k (M a) (mClear (M 6) (M a).1 (M a).2.1)).bind (gA k (M b))).map (dz k))) := by
  refine CT.ofN (lv := [(0, .ref (ad 0)), (1, .int (nI to)), (2, .int (nI a)), (3, .int (nI b)), (4, .int (nI k))]) (Or.inl ⟨rfl, rfl⟩) (by decide) htr rfl (Nat.le_of_ble_eq_true rfl) (fun κ hl X => ?_)
  subst hl
  have gsh : ∀ F S S', gA k F S = some S' → S'.1 = S.1 ∧ S'.2.1 = S.2.1 := fun F S S' h => fo_sh (f := gAi k F) (fun i S S' h => fo_sh (f := gAj k F i) (fun j S S' h => by
    unfold gAj at h
    split at h
    · exact gaS_sh h
    · cases h; exact ⟨rfl, rfl⟩) _ _ _ _ h) _ _ _ _ h
  refine g_iload_n X 1 d_D_add_0 rfl rfl ?_
  refine g_iload_n X 2 d_D_add_1 rfl rfl ?_
  refine g_iload_n X 3 d_D_add_2 rfl rfl ?_
  refine g_iload X d_D_add_3 rfl ?_
  refine g_SP X KOk.n s_D_69 (c_D_reqOps htr hto ha hb hk) d_D_add_5 rfl ⟨Nat.le_of_ble_eq_true rfl, Nat.le_of_ble_eq_true rfl, Nat.le_of_ble_eq_true rfl, Nat.le_of_ble_eq_true rfl⟩ ?_
  refine g_aload_n X 0 d_D_add_8 rfl rfl ?_
  refine g_iload_n X 2 d_D_add_9 rfl rfl ?_
  refine g_iload_n X 3 d_D_add_10 rfl rfl ?_
  refine g_VP X KOk.n v_D_105 (dl_0) rfl (c_D_reqSame htr ha hb hM hs) d_D_add_11 rfl ⟨Nat.le_of_ble_eq_true rfl, Nat.le_of_ble_eq_true rfl, Nat.le_of_ble_eq_true rfl, Nat.le_of_ble_eq_true rfl⟩ ?_
  refine g_aload_n X 0 d_D_add_14 rfl rfl ?_
  refine g_aload_n X 0 d_D_add_15 rfl rfl ?_
  refine r_regs X d_D_add_16 ?_
  refine g_iload_n X 2 d_D_add_19 rfl rfl ?_
  refine r_aald X rfl (by omega) d_D_add_20 ?_
  refine r_rows X kf_D_58 d_D_add_21 (by omega) ?_
  refine g_aload_n X 0 d_D_add_24 rfl rfl ?_
  refine r_regs X d_D_add_25 ?_
  refine g_iload_n X 2 d_D_add_28 rfl rfl ?_
  refine r_aald X rfl (by omega) d_D_add_29 ?_
  refine r_cols X kf_D_62 d_D_add_30 (by omega) ?_
  refine g_VN1 X v_D_85 (dl_0) rfl (c_D_blank htr hinj) d_D_add_33 rfl ⟨Nat.le_of_ble_eq_true rfl, Nat.le_of_ble_eq_true rfl, Nat.le_of_ble_eq_true rfl, Nat.le_of_ble_eq_true rfl⟩ ?_
  refine g_astore X d_D_add_36 (by decide) ?_
  refine g_aload X d_D_add_38 rfl ?_
  refine g_aload_n X 0 d_D_add_40 rfl rfl ?_
  refine r_regs X d_D_add_41 ?_
  refine g_iload_n X 2 d_D_add_44 rfl rfl ?_
  refine r_aald X rfl (by omega) d_D_add_45 ?_
  refine g_iload X d_D_add_46 rfl ?_
  have e1 : (va_up M 6 (mClear (M 6) (M a).1 (M a).2.1)) a = M a := va_up6 ha
  refine g_SPO X s_D_93 (c_D_gA htr hinj ha hk (by rw [e1]; exact (hM a (by omega)).1) (by rw [e1]; exact (hM a (by omega)).2)) d_D_add_48 rfl ⟨Nat.le_of_ble_eq_true rfl, Nat.le_of_ble_eq_true rfl, Nat.le_of_ble_eq_true rfl, Nat.le_of_ble_eq_true rfl⟩ (fun S1 h1 => ?_) (fun h1 S' => ?_)
  · rw [va_up_s, va_up6 ha] at h1
    refine g_aload X d_D_add_51 rfl ?_
    refine g_aload_n X 0 d_D_add_53 rfl rfl ?_
    refine r_regs X d_D_add_54 ?_
    refine g_iload_n X 3 d_D_add_57 rfl rfl ?_
    refine r_aald X rfl (by omega) d_D_add_58 ?_
    refine g_iload X d_D_add_59 rfl ?_
    refine g_SPO X s_D_93 (c_D_gA htr hinj hb hk (by rw [va_up6 hb]; exact (hM b (by omega)).1) (by rw [va_up6 hb]; exact (hM b (by omega)).2)) d_D_add_61 rfl ⟨Nat.le_of_ble_eq_true rfl, Nat.le_of_ble_eq_true rfl, Nat.le_of_ble_eq_true rfl, Nat.le_of_ble_eq_true rfl⟩ (fun S2 h2 => ?_) (fun h2 S' => ?_)
    · rw [va_up_s, va_up6 hb] at h2
      have q1 := gsh _ _ _ h1
      have q2 := gsh _ _ _ h2
      have k1 : S2.1 ≤ 8 := by rw [q2.1, q1.1]; exact (hM a (by omega)).1
      have k2 : S2.2.1 ≤ 8 := by rw [q2.2, q1.2]; exact (hM a (by omega)).2
      refine g_aload X d_D_add_64 rfl ?_
      refine g_iload X d_D_add_66 rfl ?_
      have hZ := c_D_dz htr hinj (δ := δ) (M := (va_up M 6 S2)) hk (by rw [va_up_s]; exact k1) (by rw [va_up_s]; exact k2)
      rw [va_up_s, bx_uu] at hZ
      refine g_SN1 X s_D_97 (hZ) d_D_add_68 rfl ⟨Nat.le_of_ble_eq_true rfl, Nat.le_of_ble_eq_true rfl, Nat.le_of_ble_eq_true rfl, Nat.le_of_ble_eq_true rfl⟩ ?_
      refine g_aload_n X 0 d_D_add_71 rfl rfl ?_
      refine g_iload_n X 1 d_D_add_72 rfl rfl ?_
      have hK := c_D_keep htr hinj (δ := δ) (M := va_up M 6 (dz k S2)) hto
      rw [va_up_s] at hK
      refine g_VN1 X v_D_101 (dl_0) rfl (hK) d_D_add_73 rfl ⟨Nat.le_of_ble_eq_true rfl, Nat.le_of_ble_eq_true rfl, Nat.le_of_ble_eq_true rfl, Nat.le_of_ble_eq_true rfl⟩ ?_
      exact g_iret X KOk.n d_D_add_76 (Or.inl ⟨dz k S2, by rw [h1]; simp [h2], rfl, rfl⟩)
    · rw [va_up_s, va_up6 hb] at h2
      exact Or.inr ⟨by rw [h1]; simp [h2], rfl, S', rfl⟩
  · rw [va_up_s, va_up6 ha] at h1
    exact Or.inr ⟨by rw [h1]; rfl, rfl, S', rfl⟩
set_option maxHeartbeats 4000000 in
set_option maxRecDepth 100000 in
theorem c_D_add_x1 {l : Launch} (htr : l.stackTraces = false) {δ : EX} {ad : Nat → Nat} {M : DS} {x1 x2 x3 x4 : Int32} (h : bR x1 ∨ bR x2 ∨ bR x3 ∨ bH 3 x4) : CTP l y_D_add cw_D_add (RM 5) δ (dl δ ad M) [.ref (ad 0), .int x1, .int x2, .int x3, .int x4] (.inl 1) := by
  refine CT.ofP (lv := [(0, .ref (ad 0)), (1, .int x1), (2, .int x2), (3, .int x3), (4, .int x4)]) (Or.inl ⟨rfl, rfl⟩) (by decide) htr rfl (Nat.le_of_ble_eq_true rfl) (fun κ hl X => ?_)
  subst hl
  refine g_iload_n X 1 d_D_add_0 rfl rfl ?_
  refine g_iload_n X 2 d_D_add_1 rfl rfl ?_
  refine g_iload_n X 3 d_D_add_2 rfl rfl ?_
  refine g_iload X d_D_add_3 rfl ?_
  exact g_ST X KOk.p s_D_69 (c_D_reqOps_x htr h) d_D_add_5 rfl ⟨Nat.le_of_ble_eq_true rfl, Nat.le_of_ble_eq_true rfl, Nat.le_of_ble_eq_true rfl, Nat.le_of_ble_eq_true rfl⟩ ⟨rfl, rfl⟩
set_option maxHeartbeats 4000000 in
set_option maxRecDepth 100000 in
theorem c_D_add_x2 {l : Launch} (htr : l.stackTraces = false) {δ : EX} {ad : Nat → Nat} {M : DS} {to a b k : Nat} (hto : to < 6) (ha : a < 6) (hb : b < 6) (hk : k < 4) (hM : ∀ k, k < 6 → (M k).1 ≤ 8 ∧ (M k).2.1 ≤ 8) (hs : ¬ ((M a).1 = (M b).1 ∧ (M a).2.1 = (M b).2.1)) : CTP l y_D_add cw_D_add (RM 5) δ (dl δ ad M) [.ref (ad 0), .int (nI to), .int (nI a), .int (nI b), .int (nI k)] (.inl 2) := by
  refine CT.ofP (lv := [(0, .ref (ad 0)), (1, .int (nI to)), (2, .int (nI a)), (3, .int (nI b)), (4, .int (nI k))]) (Or.inl ⟨rfl, rfl⟩) (by decide) htr rfl (Nat.le_of_ble_eq_true rfl) (fun κ hl X => ?_)
  subst hl
  refine g_iload_n X 1 d_D_add_0 rfl rfl ?_
  refine g_iload_n X 2 d_D_add_1 rfl rfl ?_
  refine g_iload_n X 3 d_D_add_2 rfl rfl ?_
  refine g_iload X d_D_add_3 rfl ?_
  refine g_SP X KOk.p s_D_69 (c_D_reqOps htr hto ha hb hk) d_D_add_5 rfl ⟨Nat.le_of_ble_eq_true rfl, Nat.le_of_ble_eq_true rfl, Nat.le_of_ble_eq_true rfl, Nat.le_of_ble_eq_true rfl⟩ ?_
  refine g_aload_n X 0 d_D_add_8 rfl rfl ?_
  refine g_iload_n X 2 d_D_add_9 rfl rfl ?_
  refine g_iload_n X 3 d_D_add_10 rfl rfl ?_
  exact g_VT X KOk.p v_D_105 (dl_0) rfl (c_D_reqSame_x htr ha hb hM hs) d_D_add_11 rfl ⟨Nat.le_of_ble_eq_true rfl, Nat.le_of_ble_eq_true rfl, Nat.le_of_ble_eq_true rfl, Nat.le_of_ble_eq_true rfl⟩ ⟨rfl, rfl⟩
set_option maxHeartbeats 4000000 in
set_option maxRecDepth 100000 in
theorem c_D_each_x1 {l : Launch} (htr : l.stackTraces = false) {δ : EX} {ad : Nat → Nat} {M : DS} {x1 x2 x3 x4 : Int32} (h : bR x1 ∨ bR x2 ∨ bR x3 ∨ bH 3 x4) : CTP l y_D_each cw_D_each (RM 5) δ (dl δ ad M) [.ref (ad 0), .int x1, .int x2, .int x3, .int x4] (.inl 1) := by
  refine CT.ofP (lv := [(0, .ref (ad 0)), (1, .int x1), (2, .int x2), (3, .int x3), (4, .int x4)]) (Or.inl ⟨rfl, rfl⟩) (by decide) htr rfl (Nat.le_of_ble_eq_true rfl) (fun κ hl X => ?_)
  subst hl
  refine g_iload_n X 1 d_D_each_0 rfl rfl ?_
  refine g_iload_n X 2 d_D_each_1 rfl rfl ?_
  refine g_iload_n X 3 d_D_each_2 rfl rfl ?_
  refine g_iload X d_D_each_3 rfl ?_
  exact g_ST X KOk.p s_D_69 (c_D_reqOps_x htr h) d_D_each_5 rfl ⟨Nat.le_of_ble_eq_true rfl, Nat.le_of_ble_eq_true rfl, Nat.le_of_ble_eq_true rfl, Nat.le_of_ble_eq_true rfl⟩ ⟨rfl, rfl⟩
set_option maxHeartbeats 4000000 in
set_option maxRecDepth 100000 in
theorem c_D_each_x2 {l : Launch} (htr : l.stackTraces = false) {δ : EX} {ad : Nat → Nat} {M : DS} {to a b k : Nat} (hto : to < 6) (ha : a < 6) (hb : b < 6) (hk : k < 4) (hM : ∀ k, k < 6 → (M k).1 ≤ 8 ∧ (M k).2.1 ≤ 8) (hs : ¬ ((M a).1 = (M b).1 ∧ (M a).2.1 = (M b).2.1)) : CTP l y_D_each cw_D_each (RM 5) δ (dl δ ad M) [.ref (ad 0), .int (nI to), .int (nI a), .int (nI b), .int (nI k)] (.inl 2) := by
  refine CT.ofP (lv := [(0, .ref (ad 0)), (1, .int (nI to)), (2, .int (nI a)), (3, .int (nI b)), (4, .int (nI k))]) (Or.inl ⟨rfl, rfl⟩) (by decide) htr rfl (Nat.le_of_ble_eq_true rfl) (fun κ hl X => ?_)
  subst hl
  refine g_iload_n X 1 d_D_each_0 rfl rfl ?_
  refine g_iload_n X 2 d_D_each_1 rfl rfl ?_
  refine g_iload_n X 3 d_D_each_2 rfl rfl ?_
  refine g_iload X d_D_each_3 rfl ?_
  refine g_SP X KOk.p s_D_69 (c_D_reqOps htr hto ha hb hk) d_D_each_5 rfl ⟨Nat.le_of_ble_eq_true rfl, Nat.le_of_ble_eq_true rfl, Nat.le_of_ble_eq_true rfl, Nat.le_of_ble_eq_true rfl⟩ ?_
  refine g_aload_n X 0 d_D_each_8 rfl rfl ?_
  refine g_iload_n X 2 d_D_each_9 rfl rfl ?_
  refine g_iload_n X 3 d_D_each_10 rfl rfl ?_
  exact g_VT X KOk.p v_D_105 (dl_0) rfl (c_D_reqSame_x htr ha hb hM hs) d_D_each_11 rfl ⟨Nat.le_of_ble_eq_true rfl, Nat.le_of_ble_eq_true rfl, Nat.le_of_ble_eq_true rfl, Nat.le_of_ble_eq_true rfl⟩ ⟨rfl, rfl⟩
theorem eaj_sh {k : Nat} {L R : Mx} {i j : Nat} {S S' : Mx} (h : eaj k L R i j S = some S') : S'.1 = S.1 ∧ S'.2.1 = S.2.1 := by
  unfold eaj at h
  split at h
  · cases hs : prS k (mVal L (8 * i + j)) (mVal R (8 * i + j)) with
    | none => rw [hs] at h; cases h
    | some z => rw [hs] at h; cases h; exact ⟨rfl, rfl⟩
  · cases h; exact ⟨rfl, rfl⟩
def eaI (k c : Nat) (L R : Mx) (i : Nat) (S : Mx) : Option Mx := fo (eaj k L R i) 0 c S
theorem eaI_sh {k c : Nat} {L R : Mx} {i : Nat} {S S' : Mx} (h : eaI k c L R i S = some S') : S'.1 = S.1 ∧ S'.2.1 = S.2.1 := fo_sh (f := eaj k L R i) (fun _ _ _ h => eaj_sh h) _ _ _ _ h
set_option maxHeartbeats 4000000 in
set_option maxRecDepth 100000 in
theorem l_D_ea_j {κ : KX} {δ : EX} {ad : Nat → Nat} (X : XO κ R_D b_D_each 10 (some .int) δ (RM 5) (Ar ad) []) (htr : (xl κ).stackTraces = false) (hinj : Inj ad) {M : DS} {P' : OC → va_W → Prop} {a b to k : Nat} (ha : a < 6) (hb : b < 6) (hk : k < 4) {R C : Nat} (h7 : R ≤ 8) (h8 : C ≤ 8) {i : Nat} (hi : i < 8) : ∀ n j S, j + n = C → S.1 = R → S.2.1 = C → (∀ S', fo (eaj k (M a) (M b) i) j n S = some S' → G κ 10 δ (Kn κ (Ar ad)) (Qe κ δ (Ar ad) P') 0 0 (dl δ ad (va_up M 6 S')) [(8, .int (nI i)), (0, .ref (ad 0)), (1, .int (nI to)), (4, .int (nI k)), (5, .ref (mq ad a)), (6, .ref (mq ad b)), (7, .ref (mq ad 6))] [] 134) → (fo (eaj k (M a) (M b) i) j n S = none → ∀ S', P' (.inl 4) (dl δ ad (va_up M 6 S'))) → G κ 10 δ (Kn κ (Ar ad)) (Qe κ δ (Ar ad) P') 0 0 (dl δ ad (va_up M 6 S)) [(9, .int (nI j)), (8, .int (nI i)), (0, .ref (ad 0)), (1, .int (nI to)), (4, .int (nI k)), (5, .ref (mq ad a)), (6, .ref (mq ad b)), (7, .ref (mq ad 6))] [] 62 := by
  intro n
  induction n with
  | zero =>
    intro j S hj h1 h2 hx ht
    refine g_iload X d_D_each_62 rfl ?_
    refine g_aload X d_D_each_64 rfl ?_
    refine r_cols X kf_D_62 d_D_each_66 (by omega) ?_
    rw [va_up_s, h2]
    refine g_icmp_ge X 134 d_D_each_69 (by decide) (fun hc => ?_) (fun hc => ?_)
    · exact g_sb (hx S rfl) ⟨rfl, rfl, rfl, rfl, rfl, rfl, rfl, trivial⟩
    · exact absurd (nI_le (by omega) (by omega)) hc
  | succ n ih =>
    intro j S hj h1 h2 hx ht
    refine g_iload X d_D_each_62 rfl ?_
    refine g_aload X d_D_each_64 rfl ?_
    refine r_cols X kf_D_62 d_D_each_66 (by omega) ?_
    rw [va_up_s, h2]
    refine g_icmp_ge X 134 d_D_each_69 (by decide) (fun hc => ?_) (fun hc => ?_)
    · exact absurd hc (nI_ge (by omega) (by omega))
    · clear hc
      refine g_aload X d_D_each_72 rfl ?_
      refine g_iload X d_D_each_74 rfl ?_
      refine g_iload X d_D_each_76 rfl ?_
      refine g_VP X KOk.n v_D_43 (dl_m (by omega)) rfl (c_M_has htr (by omega) hi (by omega)) d_D_each_78 rfl ⟨Nat.le_of_ble_eq_true rfl, Nat.le_of_ble_eq_true rfl, Nat.le_of_ble_eq_true rfl, Nat.le_of_ble_eq_true rfl⟩ ?_
      rw [va_up6 ha]
      refine g_if_eq X 128 d_D_each_81 (by decide) (fun hc => ?_) (fun hc => ?_)
      · have h := b2_0.mp hc
        have e : eaj k (M a) (M b) i j S = some S := by simp [eaj, h]
        rw [fo_s (f := eaj k (M a) (M b) i) e] at hx ht
        refine g_iinc X d_D_each_128 rfl (nI_1 _) (by decide) ?_
        refine g_goto X 62 d_D_each_131 (by decide) ?_
        exact g_sb (ih (j + 1) S (by omega) h1 h2 hx ht) ⟨rfl, rfl, rfl, rfl, rfl, rfl, rfl, rfl, trivial⟩
      · have h := b2_t hc
        refine g_aload X d_D_each_84 rfl ?_
        refine g_iload X d_D_each_86 rfl ?_
        refine g_iload X d_D_each_88 rfl ?_
        refine g_VP X KOk.n v_D_43 (dl_m (by omega)) rfl (c_M_has htr (by omega) hi (by omega)) d_D_each_90 rfl ⟨Nat.le_of_ble_eq_true rfl, Nat.le_of_ble_eq_true rfl, Nat.le_of_ble_eq_true rfl, Nat.le_of_ble_eq_true rfl⟩ ?_
        rw [va_up6 hb]
        refine g_if_eq X 128 d_D_each_93 (by decide) (fun hd => ?_) (fun hd => ?_)
        · have g := b2_0.mp hd
          have e : eaj k (M a) (M b) i j S = some S := by simp [eaj, g]
          rw [fo_s (f := eaj k (M a) (M b) i) e] at hx ht
          refine g_iinc X d_D_each_128 rfl (nI_1 _) (by decide) ?_
          refine g_goto X 62 d_D_each_131 (by decide) ?_
          exact g_sb (ih (j + 1) S (by omega) h1 h2 hx ht) ⟨rfl, rfl, rfl, rfl, rfl, rfl, rfl, rfl, trivial⟩
        · have g := b2_t hd
          refine g_aload X d_D_each_96 rfl ?_
          refine g_iload X d_D_each_98 rfl ?_
          refine g_iload X d_D_each_100 rfl ?_
          refine g_iload X d_D_each_102 rfl ?_
          refine g_aload X d_D_each_104 rfl ?_
          refine g_iload X d_D_each_106 rfl ?_
          refine g_iload X d_D_each_108 rfl ?_
          refine g_VP X KOk.n v_D_54 (dl_m (by omega)) rfl (c_M_value htr (by omega) hi (by omega)) d_D_each_110 rfl ⟨Nat.le_of_ble_eq_true rfl, Nat.le_of_ble_eq_true rfl, Nat.le_of_ble_eq_true rfl, Nat.le_of_ble_eq_true rfl⟩ ?_
          rw [va_up6 ha]
          refine g_aload X d_D_each_113 rfl ?_
          refine g_iload X d_D_each_115 rfl ?_
          refine g_iload X d_D_each_117 rfl ?_
          refine g_VP X KOk.n v_D_54 (dl_m (by omega)) rfl (c_M_value htr (by omega) hi (by omega)) d_D_each_119 rfl ⟨Nat.le_of_ble_eq_true rfl, Nat.le_of_ble_eq_true rfl, Nat.le_of_ble_eq_true rfl, Nat.le_of_ble_eq_true rfl⟩ ?_
          rw [va_up6 hb]
          have hC := c_D_productOver htr (δ := δ) (ad := ad) (M := va_up M 6 S) (k := k) (x := mVal (M a) (8 * i + j)) (y := mVal (M b) (8 * i + j)) hk
          cases hv : prS k (mVal (M a) (8 * i + j)) (mVal (M b) (8 * i + j)) with
          | none =>
            rw [hv] at hC
            have e : eaj k (M a) (M b) i j S = none := by simp [eaj, h, g, hv]
            exact g_ST X KOk.n s_D_108 (hC) d_D_each_122 rfl ⟨Nat.le_of_ble_eq_true rfl, Nat.le_of_ble_eq_true rfl, Nat.le_of_ble_eq_true rfl, Nat.le_of_ble_eq_true rfl⟩ (ht (fo_n (f := eaj k (M a) (M b) i) e) S)
          | some z =>
            rw [hv] at hC
            have e : eaj k (M a) (M b) i j S = some (mEnter S (8 * i + j) z) := by simp [eaj, h, g, hv]
            rw [fo_s (f := eaj k (M a) (M b) i) e] at hx ht
            refine g_SP X KOk.n s_D_108 (hC) d_D_each_122 rfl ⟨Nat.le_of_ble_eq_true rfl, Nat.le_of_ble_eq_true rfl, Nat.le_of_ble_eq_true rfl, Nat.le_of_ble_eq_true rfl⟩ ?_
            refine g_VN1 X v_D_39 (dl_m (by omega)) rfl (c_M_enter htr hinj (by omega) hi (by omega)) d_D_each_125 rfl ⟨Nat.le_of_ble_eq_true rfl, Nat.le_of_ble_eq_true rfl, Nat.le_of_ble_eq_true rfl, Nat.le_of_ble_eq_true rfl⟩ ?_
            rw [va_up_s, bx_uu]
            refine g_iinc X d_D_each_128 rfl (nI_1 _) (by decide) ?_
            refine g_goto X 62 d_D_each_131 (by decide) ?_
            exact g_sb (ih (j + 1) (mEnter S (8 * i + j) z) (by omega) h1 h2 hx ht) ⟨rfl, rfl, rfl, rfl, rfl, rfl, rfl, rfl, trivial⟩
set_option maxHeartbeats 4000000 in
set_option maxRecDepth 100000 in
theorem l_D_ea_i {κ : KX} {δ : EX} {ad : Nat → Nat} (X : XO κ R_D b_D_each 10 (some .int) δ (RM 5) (Ar ad) []) (htr : (xl κ).stackTraces = false) (hinj : Inj ad) {M : DS} {P' : OC → va_W → Prop} {a b to k : Nat} (ha : a < 6) (hb : b < 6) (hk : k < 4) {R C : Nat} (h7 : R ≤ 8) (h8 : C ≤ 8) : ∀ n i S, i + n = R → S.1 = R → S.2.1 = C → (∀ S', fo (eaI k C (M a) (M b)) i n S = some S' → G κ 10 δ (Kn κ (Ar ad)) (Qe κ δ (Ar ad) P') 0 0 (dl δ ad (va_up M 6 S')) [(0, .ref (ad 0)), (1, .int (nI to)), (4, .int (nI k)), (5, .ref (mq ad a)), (6, .ref (mq ad b)), (7, .ref (mq ad 6))] [] 140) → (fo (eaI k C (M a) (M b)) i n S = none → ∀ S', P' (.inl 4) (dl δ ad (va_up M 6 S'))) → G κ 10 δ (Kn κ (Ar ad)) (Qe κ δ (Ar ad) P') 0 0 (dl δ ad (va_up M 6 S)) [(8, .int (nI i)), (0, .ref (ad 0)), (1, .int (nI to)), (4, .int (nI k)), (5, .ref (mq ad a)), (6, .ref (mq ad b)), (7, .ref (mq ad 6))] [] 49 := by
  intro n
  induction n with
  | zero =>
    intro i S hi h1 h2 hx ht
    refine g_iload X d_D_each_49 rfl ?_
    refine g_aload X d_D_each_51 rfl ?_
    refine r_rows X kf_D_58 d_D_each_53 (by omega) ?_
    rw [va_up_s, h1]
    refine g_icmp_ge X 140 d_D_each_56 (by decide) (fun hc => ?_) (fun hc => ?_)
    · exact g_sb (hx S rfl) ⟨rfl, rfl, rfl, rfl, rfl, rfl, trivial⟩
    · exact absurd (nI_le (by omega) (by omega)) hc
  | succ n ih =>
    intro i S hi h1 h2 hx ht
    refine g_iload X d_D_each_49 rfl ?_
    refine g_aload X d_D_each_51 rfl ?_
    refine r_rows X kf_D_58 d_D_each_53 (by omega) ?_
    rw [va_up_s, h1]
    refine g_icmp_ge X 140 d_D_each_56 (by decide) (fun hc => ?_) (fun hc => ?_)
    · exact absurd hc (nI_ge (by omega) (by omega))
    · clear hc
      refine g_iconst X (v := nI 0) d_D_each_59 (by decide) ?_
      refine g_istore X d_D_each_60 (by decide) ?_
      refine g_sb (l_D_ea_j X htr hinj ha hb hk h7 h8 (by omega) C 0 S (by omega) h1 h2 (fun S' hS => ?_) (fun hS S' => ?_)) ⟨rfl, rfl, rfl, rfl, rfl, rfl, rfl, rfl, trivial⟩
      · rw [fo_s (f := eaI k C (M a) (M b)) hS] at hx ht
        have q := eaI_sh (c := C) hS
        have k1 := q.1.trans h1
        have k2 := q.2.trans h2
        refine g_iinc X d_D_each_134 rfl (nI_1 _) (by decide) ?_
        refine g_goto X 49 d_D_each_137 (by decide) ?_
        exact g_sb (ih (i + 1) S' (by omega) k1 k2 hx ht) ⟨rfl, rfl, rfl, rfl, rfl, rfl, rfl, trivial⟩
      · exact ht (fo_n (f := eaI k C (M a) (M b)) hS) S'
set_option maxHeartbeats 4000000 in
set_option maxRecDepth 100000 in
theorem c_D_each {l : Launch} (htr : l.stackTraces = false) {δ : EX} {ad : Nat → Nat} {M : DS} (hinj : Inj ad) {to a b k : Nat} (hto : to < 6) (ha : a < 6) (hb : b < 6) (hk : k < 4) (hM : ∀ k, k < 6 → (M k).1 ≤ 8 ∧ (M k).2.1 ≤ 8) (hs : (M a).1 = (M b).1 ∧ (M a).2.1 = (M b).2.1) : CT l y_D_each cw_D_each (RM 5) δ (Ar ad) (dl δ ad M) [.ref (ad 0), .int (nI to), .int (nI a), .int (nI b), .int (nI k)] (PS δ ad M to ((fo (eaI k (M a).2.1 (M a) (M b)) 0 (M a).1 (mClear (M 6) (M a).1 (M a).2.1)).map (dz k))) := by
  refine CT.ofN (lv := [(0, .ref (ad 0)), (1, .int (nI to)), (2, .int (nI a)), (3, .int (nI b)), (4, .int (nI k))]) (Or.inl ⟨rfl, rfl⟩) (by decide) htr rfl (Nat.le_of_ble_eq_true rfl) (fun κ hl X => ?_)
  subst hl
  refine g_iload_n X 1 d_D_each_0 rfl rfl ?_
  refine g_iload_n X 2 d_D_each_1 rfl rfl ?_
  refine g_iload_n X 3 d_D_each_2 rfl rfl ?_
  refine g_iload X d_D_each_3 rfl ?_
  refine g_SP X KOk.n s_D_69 (c_D_reqOps htr hto ha hb hk) d_D_each_5 rfl ⟨Nat.le_of_ble_eq_true rfl, Nat.le_of_ble_eq_true rfl, Nat.le_of_ble_eq_true rfl, Nat.le_of_ble_eq_true rfl⟩ ?_
  refine g_aload_n X 0 d_D_each_8 rfl rfl ?_
  refine g_iload_n X 2 d_D_each_9 rfl rfl ?_
  refine g_iload_n X 3 d_D_each_10 rfl rfl ?_
  refine g_VP X KOk.n v_D_105 (dl_0) rfl (c_D_reqSame htr ha hb hM hs) d_D_each_11 rfl ⟨Nat.le_of_ble_eq_true rfl, Nat.le_of_ble_eq_true rfl, Nat.le_of_ble_eq_true rfl, Nat.le_of_ble_eq_true rfl⟩ ?_
  refine g_aload_n X 0 d_D_each_14 rfl rfl ?_
  refine r_regs X d_D_each_15 ?_
  refine g_iload_n X 2 d_D_each_18 rfl rfl ?_
  refine r_aald X rfl (by omega) d_D_each_19 ?_
  refine g_astore X d_D_each_20 (by decide) ?_
  refine g_aload_n X 0 d_D_each_22 rfl rfl ?_
  refine r_regs X d_D_each_23 ?_
  refine g_iload_n X 3 d_D_each_26 rfl rfl ?_
  refine r_aald X rfl (by omega) d_D_each_27 ?_
  refine g_astore X d_D_each_28 (by decide) ?_
  refine g_aload_n X 0 d_D_each_30 rfl rfl ?_
  refine g_aload X d_D_each_31 rfl ?_
  refine r_rows X kf_D_58 d_D_each_33 (by omega) ?_
  refine g_aload X d_D_each_36 rfl ?_
  refine r_cols X kf_D_62 d_D_each_38 (by omega) ?_
  refine g_VN1 X v_D_85 (dl_0) rfl (c_D_blank htr hinj) d_D_each_41 rfl ⟨Nat.le_of_ble_eq_true rfl, Nat.le_of_ble_eq_true rfl, Nat.le_of_ble_eq_true rfl, Nat.le_of_ble_eq_true rfl⟩ ?_
  refine g_astore X d_D_each_44 (by decide) ?_
  refine g_iconst X (v := nI 0) d_D_each_46 (by decide) ?_
  refine g_istore X d_D_each_47 (by decide) ?_
  refine g_sb (l_D_ea_i X htr hinj ha hb hk (hM a (by omega)).1 (hM a (by omega)).2 (M a).1 0 (mClear (M 6) (M a).1 (M a).2.1) (by omega) rfl rfl (fun S2 h2 => ?_) (fun h2 S' => ?_)) ⟨rfl, rfl, rfl, rfl, rfl, rfl, rfl, trivial⟩
  · have q2 := fo_sh (f := eaI k (M a).2.1 (M a) (M b)) (fun _ _ _ h => eaI_sh h) _ _ _ _ h2
    have k1 : S2.1 ≤ 8 := by rw [q2.1]; exact (hM a (by omega)).1
    have k2 : S2.2.1 ≤ 8 := by rw [q2.2]; exact (hM a (by omega)).2
    refine g_aload X d_D_each_140 rfl ?_
    refine g_iload X d_D_each_142 rfl ?_
    have hZ := c_D_dz htr hinj (δ := δ) (M := (va_up M 6 S2)) hk (by rw [va_up_s]; exact k1) (by rw [va_up_s]; exact k2)
    rw [va_up_s, bx_uu] at hZ
    refine g_SN1 X s_D_97 (hZ) d_D_each_144 rfl ⟨Nat.le_of_ble_eq_true rfl, Nat.le_of_ble_eq_true rfl, Nat.le_of_ble_eq_true rfl, Nat.le_of_ble_eq_true rfl⟩ ?_
    refine g_aload_n X 0 d_D_each_147 rfl rfl ?_
    refine g_iload_n X 1 d_D_each_148 rfl rfl ?_
    have hK := c_D_keep htr hinj (δ := δ) (M := va_up M 6 (dz k S2)) hto
    rw [va_up_s] at hK
    refine g_VN1 X v_D_101 (dl_0) rfl (hK) d_D_each_149 rfl ⟨Nat.le_of_ble_eq_true rfl, Nat.le_of_ble_eq_true rfl, Nat.le_of_ble_eq_true rfl, Nat.le_of_ble_eq_true rfl⟩ ?_
    exact g_iret X KOk.n d_D_each_152 (Or.inl ⟨dz k S2, by rw [h2]; rfl, rfl, rfl⟩)
  · exact Or.inr ⟨by rw [h2]; rfl, rfl, S', rfl⟩
end PB
