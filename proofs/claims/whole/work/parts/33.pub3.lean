section PC3
set_option maxHeartbeats 4000000 in
set_option maxRecDepth 100000 in
theorem l_D_rd_j {κ : KX} {δ : EX} {ad : Nat → Nat} (X : XO κ R_D b_D_reduce 7 (some .long) δ (RM 4) (Ar ad) []) (htr : (xl κ).stackTraces = false) (hinj : Inj ad) {M : DS} {P' : OC → va_W → Prop} {a k : Nat} (ha : a < 6) (h7 : (M a).1 ≤ 8) (h8 : (M a).2.1 ≤ 8) (hk : k < 4) {i : Nat} (hi : i < 8) : ∀ n j S, j + n = (M a).2.1 → (∀ S', fo (rdj k (M a) i) j n S = some S' → G κ 7 δ (Kn κ (Ar ad)) (Qe κ δ (Ar ad) P') 0 0 (dl δ ad (va_up M 6 S')) [(5, .int (nI i)), (0, .ref (ad 0)), (2, .int (nI k)), (3, .ref (mq ad a)), (4, .ref (mq ad 6))] [] 80) → (fo (rdj k (M a) i) j n S = none → ∀ S', P' (.inl 4) (dl δ ad (va_up M 6 S'))) → G κ 7 δ (Kn κ (Ar ad)) (Qe κ δ (Ar ad) P') 0 0 (dl δ ad (va_up M 6 S)) [(6, .int (nI j)), (5, .int (nI i)), (0, .ref (ad 0)), (2, .int (nI k)), (3, .ref (mq ad a)), (4, .ref (mq ad 6))] [] 38 := by
  intro n
  induction n with
  | zero =>
    intro j S hj hx ht
    refine g_iload X d_D_reduce_38 rfl ?_
    refine g_aload_n X 3 d_D_reduce_40 rfl rfl ?_
    refine r_cols X kf_D_62 d_D_reduce_41 (by omega) ?_
    rw [va_up6 ha]
    refine g_icmp_ge X 80 d_D_reduce_44 (by decide) (fun hc => ?_) (fun hc => ?_)
    · exact g_sb (hx S rfl) ⟨rfl, rfl, rfl, rfl, rfl, trivial⟩
    · exact absurd (nI_le (by omega) (by omega)) hc
  | succ n ih =>
    intro j S hj hx ht
    refine g_iload X d_D_reduce_38 rfl ?_
    refine g_aload_n X 3 d_D_reduce_40 rfl rfl ?_
    refine r_cols X kf_D_62 d_D_reduce_41 (by omega) ?_
    rw [va_up6 ha]
    refine g_icmp_ge X 80 d_D_reduce_44 (by decide) (fun hc => ?_) (fun hc => ?_)
    · exact absurd hc (nI_ge (by omega) (by omega))
    · clear hc
      refine g_aload_n X 3 d_D_reduce_47 rfl rfl ?_
      refine g_iload X d_D_reduce_48 rfl ?_
      refine g_iload X d_D_reduce_50 rfl ?_
      refine g_VP X KOk.n v_D_43 (dl_m (by omega)) rfl (c_M_has htr (by omega) hi (by omega)) d_D_reduce_52 rfl ⟨Nat.le_of_ble_eq_true rfl, Nat.le_of_ble_eq_true rfl, Nat.le_of_ble_eq_true rfl, Nat.le_of_ble_eq_true rfl⟩ ?_
      rw [va_up6 ha]
      refine g_if_eq X 74 d_D_reduce_55 (by decide) (fun hc => ?_) (fun hc => ?_)
      · have h := b2_0.mp hc
        have e : rdj k (M a) i j S = some S := by simp [rdj, h]
        rw [fo_s (f := rdj k (M a) i) e] at hx ht
        refine g_iinc X d_D_reduce_74 rfl (nI_1 _) (by decide) ?_
        refine g_goto X 38 d_D_reduce_77 (by decide) ?_
        exact g_sb (ih (j + 1) S (by omega) hx ht) ⟨rfl, rfl, rfl, rfl, rfl, rfl, trivial⟩
      · have h := b2_t hc
        have e : rdj k (M a) i j S = gaS k S (8 * 0 + 0) (mVal (M a) (8 * i + j)) := by simp [rdj, h]
        refine g_aload X d_D_reduce_58 rfl ?_
        refine g_iconst X (v := nI 0) d_D_reduce_60 (by decide) ?_
        refine g_iconst X (v := nI 0) d_D_reduce_61 (by decide) ?_
        refine g_aload_n X 3 d_D_reduce_62 rfl rfl ?_
        refine g_iload X d_D_reduce_63 rfl ?_
        refine g_iload X d_D_reduce_65 rfl ?_
        refine g_VP X KOk.n v_D_54 (dl_m (by omega)) rfl (c_M_value htr (by omega) hi (by omega)) d_D_reduce_67 rfl ⟨Nat.le_of_ble_eq_true rfl, Nat.le_of_ble_eq_true rfl, Nat.le_of_ble_eq_true rfl, Nat.le_of_ble_eq_true rfl⟩ ?_
        rw [va_up6 ha]
        refine g_iload_n X 2 d_D_reduce_70 rfl rfl ?_
        refine g_SPO X s_D_119 (c_D_gather htr hinj (by decide) (by decide) hk) d_D_reduce_71 rfl ⟨Nat.le_of_ble_eq_true rfl, Nat.le_of_ble_eq_true rfl, Nat.le_of_ble_eq_true rfl, Nat.le_of_ble_eq_true rfl⟩ (fun S' hS => ?_) (fun hS S' => ?_)
        · rw [va_up_s] at hS
          rw [fo_s (f := rdj k (M a) i) (e.trans hS)] at hx ht
          refine g_iinc X d_D_reduce_74 rfl (nI_1 _) (by decide) ?_
          refine g_goto X 38 d_D_reduce_77 (by decide) ?_
          exact g_sb (ih (j + 1) S' (by omega) hx ht) ⟨rfl, rfl, rfl, rfl, rfl, rfl, trivial⟩
        · rw [va_up_s] at hS
          exact ht (fo_n (f := rdj k (M a) i) (e.trans hS)) S'
set_option maxHeartbeats 4000000 in
set_option maxRecDepth 100000 in
theorem l_D_rd_i {κ : KX} {δ : EX} {ad : Nat → Nat} (X : XO κ R_D b_D_reduce 7 (some .long) δ (RM 4) (Ar ad) []) (htr : (xl κ).stackTraces = false) (hinj : Inj ad) {M : DS} {P' : OC → va_W → Prop} {a k : Nat} (ha : a < 6) (h7 : (M a).1 ≤ 8) (h8 : (M a).2.1 ≤ 8) (hk : k < 4) : ∀ n i S, i + n = (M a).1 → (∀ S', fo (rdi k (M a)) i n S = some S' → G κ 7 δ (Kn κ (Ar ad)) (Qe κ δ (Ar ad) P') 0 0 (dl δ ad (va_up M 6 S')) [(0, .ref (ad 0)), (2, .int (nI k)), (3, .ref (mq ad a)), (4, .ref (mq ad 6))] [] 86) → (fo (rdi k (M a)) i n S = none → ∀ S', P' (.inl 4) (dl δ ad (va_up M 6 S'))) → G κ 7 δ (Kn κ (Ar ad)) (Qe κ δ (Ar ad) P') 0 0 (dl δ ad (va_up M 6 S)) [(5, .int (nI i)), (0, .ref (ad 0)), (2, .int (nI k)), (3, .ref (mq ad a)), (4, .ref (mq ad 6))] [] 26 := by
  intro n
  induction n with
  | zero =>
    intro i S hi hx ht
    refine g_iload X d_D_reduce_26 rfl ?_
    refine g_aload_n X 3 d_D_reduce_28 rfl rfl ?_
    refine r_rows X kf_D_58 d_D_reduce_29 (by omega) ?_
    rw [va_up6 ha]
    refine g_icmp_ge X 86 d_D_reduce_32 (by decide) (fun hc => ?_) (fun hc => ?_)
    · exact g_sb (hx S rfl) ⟨rfl, rfl, rfl, rfl, trivial⟩
    · exact absurd (nI_le (by omega) (by omega)) hc
  | succ n ih =>
    intro i S hi hx ht
    refine g_iload X d_D_reduce_26 rfl ?_
    refine g_aload_n X 3 d_D_reduce_28 rfl rfl ?_
    refine r_rows X kf_D_58 d_D_reduce_29 (by omega) ?_
    rw [va_up6 ha]
    refine g_icmp_ge X 86 d_D_reduce_32 (by decide) (fun hc => ?_) (fun hc => ?_)
    · exact absurd hc (nI_ge (by omega) (by omega))
    · clear hc
      refine g_iconst X (v := nI 0) d_D_reduce_35 (by decide) ?_
      refine g_istore X d_D_reduce_36 (by decide) ?_
      refine g_sb (l_D_rd_j X htr hinj ha h7 h8 hk (by omega) (M a).2.1 0 S (by omega) (fun S' hS => ?_) (fun hS S' => ?_)) ⟨rfl, rfl, rfl, rfl, rfl, rfl, trivial⟩
      · rw [fo_s (f := rdi k (M a)) hS] at hx ht
        refine g_iinc X d_D_reduce_80 rfl (nI_1 _) (by decide) ?_
        refine g_goto X 26 d_D_reduce_83 (by decide) ?_
        exact g_sb (ih (i + 1) S' (by omega) hx ht) ⟨rfl, rfl, rfl, rfl, rfl, trivial⟩
      · exact ht (fo_n (f := rdi k (M a)) hS) S'
/-- what reduce ends with: the sum; no entry; a sum out of range -/
def PR (δ : EX) (ad : Nat → Nat) (M : DS) (o : Option Mx) : OC → va_W → Prop := fun r w => ∃ S', w = dl δ ad (va_up M 6 S') ∧ ((o = none ∧ r = .inl 4) ∨ ∃ S, o = some S ∧ ((mHas S (8 * 0 + 0) = false ∧ r = .inl 3) ∨ (mHas S (8 * 0 + 0) = true ∧ r = .inr (some (.long (mVal S (8 * 0 + 0)))))))
set_option maxHeartbeats 4000000 in
set_option maxRecDepth 100000 in
theorem c_D_reduce {l : Launch} (htr : l.stackTraces = false) {δ : EX} {ad : Nat → Nat} {M : DS} (hinj : Inj ad) {a k : Nat} (ha : a < 6) (h7 : (M a).1 ≤ 8) (h8 : (M a).2.1 ≤ 8) (hk : k < 4) : CT l y_D_reduce cw_D_reduce (RM 4) δ (Ar ad) (dl δ ad M) [.ref (ad 0), .int (nI a), .int (nI k)] (PR δ ad M (fo (rdi k (M a)) 0 (M a).1 (mClear (M 6) 1 1))) := by
  refine CT.ofN (lv := [(0, .ref (ad 0)), (1, .int (nI a)), (2, .int (nI k))]) (Or.inl ⟨rfl, rfl⟩) (by decide) htr rfl (Nat.le_of_ble_eq_true rfl) (fun κ hl X => ?_)
  subst hl
  refine g_iload_n X 1 d_D_reduce_0 rfl rfl ?_
  refine g_SP X KOk.n s_D_20 (c_D_reqReg htr ha) d_D_reduce_1 rfl ⟨Nat.le_of_ble_eq_true rfl, Nat.le_of_ble_eq_true rfl, Nat.le_of_ble_eq_true rfl, Nat.le_of_ble_eq_true rfl⟩ ?_
  refine g_iload_n X 2 d_D_reduce_4 rfl rfl ?_
  refine g_SP X KOk.n s_D_116 (c_D_reqSem htr hk) d_D_reduce_5 rfl ⟨Nat.le_of_ble_eq_true rfl, Nat.le_of_ble_eq_true rfl, Nat.le_of_ble_eq_true rfl, Nat.le_of_ble_eq_true rfl⟩ ?_
  refine g_aload_n X 0 d_D_reduce_8 rfl rfl ?_
  refine r_regs X d_D_reduce_9 ?_
  refine g_iload_n X 1 d_D_reduce_12 rfl rfl ?_
  refine r_aald X rfl (by omega) d_D_reduce_13 ?_
  refine g_astore_n X 3 d_D_reduce_14 rfl (by decide) ?_
  refine g_aload_n X 0 d_D_reduce_15 rfl rfl ?_
  refine g_iconst X (v := nI 1) d_D_reduce_16 (by decide) ?_
  refine g_iconst X (v := nI 1) d_D_reduce_17 (by decide) ?_
  refine g_VN1 X v_D_85 (dl_0) rfl (c_D_blank htr hinj) d_D_reduce_18 rfl ⟨Nat.le_of_ble_eq_true rfl, Nat.le_of_ble_eq_true rfl, Nat.le_of_ble_eq_true rfl, Nat.le_of_ble_eq_true rfl⟩ ?_
  refine g_astore X d_D_reduce_21 (by decide) ?_
  refine g_iconst X (v := nI 0) d_D_reduce_23 (by decide) ?_
  refine g_istore X d_D_reduce_24 (by decide) ?_
  refine g_sb (l_D_rd_i X htr hinj ha h7 h8 hk (M a).1 0 (mClear (M 6) 1 1) (by omega) (fun S2 h2 => ?_) (fun h2 S' => ?_)) ⟨rfl, rfl, rfl, rfl, rfl, trivial⟩
  · have hH := c_M_has htr (δ := δ) (ad := ad) (M := va_up M 6 S2) (r := 6) (i := 0) (j := 0) (by decide) (by decide) (by decide)
    have hV := c_M_value htr (δ := δ) (ad := ad) (M := va_up M 6 S2) (r := 6) (i := 0) (j := 0) (by decide) (by decide) (by decide)
    rw [va_up_s] at hH hV
    refine g_aload X d_D_reduce_86 rfl ?_
    refine g_iconst X (v := nI 0) d_D_reduce_88 (by decide) ?_
    refine g_iconst X (v := nI 0) d_D_reduce_89 (by decide) ?_
    refine g_VP X KOk.n v_D_43 (dl_m (by omega)) rfl (hH) d_D_reduce_90 rfl ⟨Nat.le_of_ble_eq_true rfl, Nat.le_of_ble_eq_true rfl, Nat.le_of_ble_eq_true rfl, Nat.le_of_ble_eq_true rfl⟩ ?_
    cases hq : mHas S2 (8 * 0 + 0) with
    | false =>
      exact g_ST X KOk.n s_D_50 (c_D_reqEntry_x htr (b := false) rfl) d_D_reduce_93 rfl ⟨Nat.le_of_ble_eq_true rfl, Nat.le_of_ble_eq_true rfl, Nat.le_of_ble_eq_true rfl, Nat.le_of_ble_eq_true rfl⟩ ⟨S2, rfl, Or.inr ⟨S2, h2, Or.inl ⟨hq, rfl⟩⟩⟩
    | true =>
      refine g_SP X KOk.n s_D_50 (c_D_reqEntry htr (b := true) rfl) d_D_reduce_93 rfl ⟨Nat.le_of_ble_eq_true rfl, Nat.le_of_ble_eq_true rfl, Nat.le_of_ble_eq_true rfl, Nat.le_of_ble_eq_true rfl⟩ ?_
      refine g_aload X d_D_reduce_96 rfl ?_
      refine g_iconst X (v := nI 0) d_D_reduce_98 (by decide) ?_
      refine g_iconst X (v := nI 0) d_D_reduce_99 (by decide) ?_
      refine g_VP X KOk.n v_D_54 (dl_m (by omega)) rfl (hV) d_D_reduce_100 rfl ⟨Nat.le_of_ble_eq_true rfl, Nat.le_of_ble_eq_true rfl, Nat.le_of_ble_eq_true rfl, Nat.le_of_ble_eq_true rfl⟩ ?_
      exact g_lret X KOk.n d_D_reduce_103 ⟨S2, rfl, Or.inr ⟨S2, h2, Or.inr ⟨hq, rfl⟩⟩⟩
  · exact ⟨S', rfl, Or.inl ⟨h2, rfl⟩⟩
set_option maxHeartbeats 4000000 in
set_option maxRecDepth 100000 in
theorem c_D_reduce_x {l : Launch} (htr : l.stackTraces = false) {δ : EX} {ad : Nat → Nat} {M : DS} {x y : Int32} (h : bR x ∨ bH 3 y) : CTP l y_D_reduce cw_D_reduce (RM 4) δ (dl δ ad M) [.ref (ad 0), .int x, .int y] (.inl 1) := by
  refine CT.ofP (lv := [(0, .ref (ad 0)), (1, .int x), (2, .int y)]) (Or.inl ⟨rfl, rfl⟩) (by decide) htr rfl (Nat.le_of_ble_eq_true rfl) (fun κ hl X => ?_)
  subst hl
  refine g_iload_n X 1 d_D_reduce_0 rfl rfl ?_
  rcases bR_or x with hb | ⟨r, hr, rfl⟩
  · exact g_ST X KOk.p s_D_20 (c_D_reqReg_x htr hb) d_D_reduce_1 rfl ⟨Nat.le_of_ble_eq_true rfl, Nat.le_of_ble_eq_true rfl, Nat.le_of_ble_eq_true rfl, Nat.le_of_ble_eq_true rfl⟩ ⟨rfl, rfl⟩
  refine g_SP X KOk.p s_D_20 (c_D_reqReg htr hr) d_D_reduce_1 rfl ⟨Nat.le_of_ble_eq_true rfl, Nat.le_of_ble_eq_true rfl, Nat.le_of_ble_eq_true rfl, Nat.le_of_ble_eq_true rfl⟩ ?_
  refine g_iload_n X 2 d_D_reduce_4 rfl rfl ?_
  rcases h with h | h
  · exact absurd h (bR_no hr)
  · exact g_ST X KOk.p s_D_116 (c_D_reqSem_x htr h) d_D_reduce_5 rfl ⟨Nat.le_of_ble_eq_true rfl, Nat.le_of_ble_eq_true rfl, Nat.le_of_ble_eq_true rfl, Nat.le_of_ble_eq_true rfl⟩ ⟨rfl, rfl⟩
set_option maxHeartbeats 4000000 in
set_option maxRecDepth 100000 in
theorem c_D_levels_x1 {l : Launch} (htr : l.stackTraces = false) {δ : EX} {ad : Nat → Nat} {M : DS} {x y z : Int32} (h : bR x ∨ bR y) : CTP l y_D_levels cw_D_levels (RM 3) δ (dl δ ad M) [.ref (ad 0), .int x, .int y, .int z] (.inl 1) := by
  refine CT.ofP (lv := [(0, .ref (ad 0)), (1, .int x), (2, .int y), (3, .int z)]) (Or.inl ⟨rfl, rfl⟩) (by decide) htr rfl (Nat.le_of_ble_eq_true rfl) (fun κ hl X => ?_)
  subst hl
  refine g_iload_n X 1 d_D_levels_0 rfl rfl ?_
  rcases bR_or x with hb | ⟨r, hr, rfl⟩
  · exact g_ST X KOk.p s_D_20 (c_D_reqReg_x htr hb) d_D_levels_1 rfl ⟨Nat.le_of_ble_eq_true rfl, Nat.le_of_ble_eq_true rfl, Nat.le_of_ble_eq_true rfl, Nat.le_of_ble_eq_true rfl⟩ ⟨rfl, rfl⟩
  refine g_SP X KOk.p s_D_20 (c_D_reqReg htr hr) d_D_levels_1 rfl ⟨Nat.le_of_ble_eq_true rfl, Nat.le_of_ble_eq_true rfl, Nat.le_of_ble_eq_true rfl, Nat.le_of_ble_eq_true rfl⟩ ?_
  refine g_aload_n X 0 d_D_levels_4 rfl rfl ?_
  refine g_iload_n X 2 d_D_levels_5 rfl rfl ?_
  rcases h with h | h
  · exact absurd h (bR_no hr)
  · exact g_VT X KOk.p v_D_123 (dl_0) rfl (c_D_reqGr_x1 htr h) d_D_levels_6 rfl ⟨Nat.le_of_ble_eq_true rfl, Nat.le_of_ble_eq_true rfl, Nat.le_of_ble_eq_true rfl, Nat.le_of_ble_eq_true rfl⟩ ⟨rfl, rfl⟩
set_option maxHeartbeats 4000000 in
set_option maxRecDepth 100000 in
theorem c_D_levels_x2 {l : Launch} (htr : l.stackTraces = false) {δ : EX} {ad : Nat → Nat} {M : DS} {to a : Nat} {z : Int32} (hto : to < 6) (ha : a < 6) (hM : ∀ k, k < 6 → (M k).1 ≤ 8 ∧ (M k).2.1 ≤ 8) (h : ¬ (M a).1 = (M a).2.1) : CTP l y_D_levels cw_D_levels (RM 3) δ (dl δ ad M) [.ref (ad 0), .int (nI to), .int (nI a), .int z] (.inl 2) := by
  refine CT.ofP (lv := [(0, .ref (ad 0)), (1, .int (nI to)), (2, .int (nI a)), (3, .int z)]) (Or.inl ⟨rfl, rfl⟩) (by decide) htr rfl (Nat.le_of_ble_eq_true rfl) (fun κ hl X => ?_)
  subst hl
  refine g_iload_n X 1 d_D_levels_0 rfl rfl ?_
  refine g_SP X KOk.p s_D_20 (c_D_reqReg htr hto) d_D_levels_1 rfl ⟨Nat.le_of_ble_eq_true rfl, Nat.le_of_ble_eq_true rfl, Nat.le_of_ble_eq_true rfl, Nat.le_of_ble_eq_true rfl⟩ ?_
  refine g_aload_n X 0 d_D_levels_4 rfl rfl ?_
  refine g_iload_n X 2 d_D_levels_5 rfl rfl ?_
  exact g_VT X KOk.p v_D_123 (dl_0) rfl (c_D_reqGr_x2 htr ha hM h) d_D_levels_6 rfl ⟨Nat.le_of_ble_eq_true rfl, Nat.le_of_ble_eq_true rfl, Nat.le_of_ble_eq_true rfl, Nat.le_of_ble_eq_true rfl⟩ ⟨rfl, rfl⟩
set_option maxHeartbeats 4000000 in
set_option maxRecDepth 100000 in
theorem c_D_paths_x1 {l : Launch} (htr : l.stackTraces = false) {δ : EX} {ad : Nat → Nat} {M : DS} {x y : Int32} (h : bR x ∨ bR y) : CTP l y_D_paths cw_D_paths (RM 5) δ (dl δ ad M) [.ref (ad 0), .int x, .int y] (.inl 1) := by
  refine CT.ofP (lv := [(0, .ref (ad 0)), (1, .int x), (2, .int y)]) (Or.inl ⟨rfl, rfl⟩) (by decide) htr rfl (Nat.le_of_ble_eq_true rfl) (fun κ hl X => ?_)
  subst hl
  refine g_iload_n X 1 d_D_paths_0 rfl rfl ?_
  rcases bR_or x with hb | ⟨r, hr, rfl⟩
  · exact g_ST X KOk.p s_D_20 (c_D_reqReg_x htr hb) d_D_paths_1 rfl ⟨Nat.le_of_ble_eq_true rfl, Nat.le_of_ble_eq_true rfl, Nat.le_of_ble_eq_true rfl, Nat.le_of_ble_eq_true rfl⟩ ⟨rfl, rfl⟩
  refine g_SP X KOk.p s_D_20 (c_D_reqReg htr hr) d_D_paths_1 rfl ⟨Nat.le_of_ble_eq_true rfl, Nat.le_of_ble_eq_true rfl, Nat.le_of_ble_eq_true rfl, Nat.le_of_ble_eq_true rfl⟩ ?_
  refine g_aload_n X 0 d_D_paths_4 rfl rfl ?_
  refine g_iload_n X 2 d_D_paths_5 rfl rfl ?_
  rcases h with h | h
  · exact absurd h (bR_no hr)
  · exact g_VT X KOk.p v_D_123 (dl_0) rfl (c_D_reqGr_x1 htr h) d_D_paths_6 rfl ⟨Nat.le_of_ble_eq_true rfl, Nat.le_of_ble_eq_true rfl, Nat.le_of_ble_eq_true rfl, Nat.le_of_ble_eq_true rfl⟩ ⟨rfl, rfl⟩
set_option maxHeartbeats 4000000 in
set_option maxRecDepth 100000 in
theorem c_D_paths_x2 {l : Launch} (htr : l.stackTraces = false) {δ : EX} {ad : Nat → Nat} {M : DS} {to a : Nat} (hto : to < 6) (ha : a < 6) (hM : ∀ k, k < 6 → (M k).1 ≤ 8 ∧ (M k).2.1 ≤ 8) (h : ¬ (M a).1 = (M a).2.1) : CTP l y_D_paths cw_D_paths (RM 5) δ (dl δ ad M) [.ref (ad 0), .int (nI to), .int (nI a)] (.inl 2) := by
  refine CT.ofP (lv := [(0, .ref (ad 0)), (1, .int (nI to)), (2, .int (nI a))]) (Or.inl ⟨rfl, rfl⟩) (by decide) htr rfl (Nat.le_of_ble_eq_true rfl) (fun κ hl X => ?_)
  subst hl
  refine g_iload_n X 1 d_D_paths_0 rfl rfl ?_
  refine g_SP X KOk.p s_D_20 (c_D_reqReg htr hto) d_D_paths_1 rfl ⟨Nat.le_of_ble_eq_true rfl, Nat.le_of_ble_eq_true rfl, Nat.le_of_ble_eq_true rfl, Nat.le_of_ble_eq_true rfl⟩ ?_
  refine g_aload_n X 0 d_D_paths_4 rfl rfl ?_
  refine g_iload_n X 2 d_D_paths_5 rfl rfl ?_
  exact g_VT X KOk.p v_D_123 (dl_0) rfl (c_D_reqGr_x2 htr ha hM h) d_D_paths_6 rfl ⟨Nat.le_of_ble_eq_true rfl, Nat.le_of_ble_eq_true rfl, Nat.le_of_ble_eq_true rfl, Nat.le_of_ble_eq_true rfl⟩ ⟨rfl, rfl⟩
set_option maxHeartbeats 4000000 in
set_option maxRecDepth 100000 in
theorem c_D_components_x1 {l : Launch} (htr : l.stackTraces = false) {δ : EX} {ad : Nat → Nat} {M : DS} {x y : Int32} (h : bR x ∨ bR y) : CTP l y_D_components cw_D_components (RM 2) δ (dl δ ad M) [.ref (ad 0), .int x, .int y] (.inl 1) := by
  refine CT.ofP (lv := [(0, .ref (ad 0)), (1, .int x), (2, .int y)]) (Or.inl ⟨rfl, rfl⟩) (by decide) htr rfl (Nat.le_of_ble_eq_true rfl) (fun κ hl X => ?_)
  subst hl
  refine g_iload_n X 1 d_D_components_0 rfl rfl ?_
  rcases bR_or x with hb | ⟨r, hr, rfl⟩
  · exact g_ST X KOk.p s_D_20 (c_D_reqReg_x htr hb) d_D_components_1 rfl ⟨Nat.le_of_ble_eq_true rfl, Nat.le_of_ble_eq_true rfl, Nat.le_of_ble_eq_true rfl, Nat.le_of_ble_eq_true rfl⟩ ⟨rfl, rfl⟩
  refine g_SP X KOk.p s_D_20 (c_D_reqReg htr hr) d_D_components_1 rfl ⟨Nat.le_of_ble_eq_true rfl, Nat.le_of_ble_eq_true rfl, Nat.le_of_ble_eq_true rfl, Nat.le_of_ble_eq_true rfl⟩ ?_
  refine g_aload_n X 0 d_D_components_4 rfl rfl ?_
  refine g_iload_n X 2 d_D_components_5 rfl rfl ?_
  rcases h with h | h
  · exact absurd h (bR_no hr)
  · exact g_VT X KOk.p v_D_123 (dl_0) rfl (c_D_reqGr_x1 htr h) d_D_components_6 rfl ⟨Nat.le_of_ble_eq_true rfl, Nat.le_of_ble_eq_true rfl, Nat.le_of_ble_eq_true rfl, Nat.le_of_ble_eq_true rfl⟩ ⟨rfl, rfl⟩
set_option maxHeartbeats 4000000 in
set_option maxRecDepth 100000 in
theorem c_D_components_x2 {l : Launch} (htr : l.stackTraces = false) {δ : EX} {ad : Nat → Nat} {M : DS} {to a : Nat} (hto : to < 6) (ha : a < 6) (hM : ∀ k, k < 6 → (M k).1 ≤ 8 ∧ (M k).2.1 ≤ 8) (h : ¬ (M a).1 = (M a).2.1) : CTP l y_D_components cw_D_components (RM 2) δ (dl δ ad M) [.ref (ad 0), .int (nI to), .int (nI a)] (.inl 2) := by
  refine CT.ofP (lv := [(0, .ref (ad 0)), (1, .int (nI to)), (2, .int (nI a))]) (Or.inl ⟨rfl, rfl⟩) (by decide) htr rfl (Nat.le_of_ble_eq_true rfl) (fun κ hl X => ?_)
  subst hl
  refine g_iload_n X 1 d_D_components_0 rfl rfl ?_
  refine g_SP X KOk.p s_D_20 (c_D_reqReg htr hto) d_D_components_1 rfl ⟨Nat.le_of_ble_eq_true rfl, Nat.le_of_ble_eq_true rfl, Nat.le_of_ble_eq_true rfl, Nat.le_of_ble_eq_true rfl⟩ ?_
  refine g_aload_n X 0 d_D_components_4 rfl rfl ?_
  refine g_iload_n X 2 d_D_components_5 rfl rfl ?_
  exact g_VT X KOk.p v_D_123 (dl_0) rfl (c_D_reqGr_x2 htr ha hM h) d_D_components_6 rfl ⟨Nat.le_of_ble_eq_true rfl, Nat.le_of_ble_eq_true rfl, Nat.le_of_ble_eq_true rfl, Nat.le_of_ble_eq_true rfl⟩ ⟨rfl, rfl⟩
set_option maxHeartbeats 4000000 in
set_option maxRecDepth 100000 in
theorem c_D_levels_x3 {l : Launch} (htr : l.stackTraces = false) {δ : EX} {ad : Nat → Nat} {M : DS} {to a : Nat} {z : Int32} (hto : to < 6) (ha : a < 6) (hM : ∀ k, k < 6 → (M k).1 ≤ 8 ∧ (M k).2.1 ≤ 8) (hsq : (M a).1 = (M a).2.1) (h : z < 0 ∨ nI (M a).1 ≤ z) : CTP l y_D_levels cw_D_levels (RM 3) δ (dl δ ad M) [.ref (ad 0), .int (nI to), .int (nI a), .int z] (.inl 3) := by
  refine CT.ofP (lv := [(0, .ref (ad 0)), (1, .int (nI to)), (2, .int (nI a)), (3, .int z)]) (Or.inl ⟨rfl, rfl⟩) (by decide) htr rfl (Nat.le_of_ble_eq_true rfl) (fun κ hl X => ?_)
  subst hl
  refine g_iload_n X 1 d_D_levels_0 rfl rfl ?_
  refine g_SP X KOk.p s_D_20 (c_D_reqReg htr hto) d_D_levels_1 rfl ⟨Nat.le_of_ble_eq_true rfl, Nat.le_of_ble_eq_true rfl, Nat.le_of_ble_eq_true rfl, Nat.le_of_ble_eq_true rfl⟩ ?_
  refine g_aload_n X 0 d_D_levels_4 rfl rfl ?_
  refine g_iload_n X 2 d_D_levels_5 rfl rfl ?_
  refine g_VP X KOk.p v_D_123 (dl_0) rfl (c_D_reqGr htr ha hM hsq) d_D_levels_6 rfl ⟨Nat.le_of_ble_eq_true rfl, Nat.le_of_ble_eq_true rfl, Nat.le_of_ble_eq_true rfl, Nat.le_of_ble_eq_true rfl⟩ ?_
  refine g_aload_n X 0 d_D_levels_9 rfl rfl ?_
  refine r_regs X d_D_levels_10 ?_
  refine g_iload_n X 2 d_D_levels_13 rfl rfl ?_
  refine r_aald X rfl (by omega) d_D_levels_14 ?_
  refine g_astore X d_D_levels_15 (by decide) ?_
  refine g_aload X d_D_levels_17 rfl ?_
  refine g_iload_n X 3 d_D_levels_19 rfl rfl ?_
  exact g_ST X KOk.p s_D_126 (c_D_reqVe_x htr (by omega) h) d_D_levels_20 rfl ⟨Nat.le_of_ble_eq_true rfl, Nat.le_of_ble_eq_true rfl, Nat.le_of_ble_eq_true rfl, Nat.le_of_ble_eq_true rfl⟩ ⟨rfl, rfl⟩
def lvI (G : Mx) (v : Nat) (S : Mx) : Mx := fl (nlI G v) 0 G.1 S
set_option maxHeartbeats 4000000 in
set_option maxRecDepth 100000 in
theorem l_D_levels {κ : KX} {δ : EX} {ad : Nat → Nat} (X : XO κ R_D b_D_levels 7 (some .int) δ (RM 3) (Ar ad) []) (htr : (xl κ).stackTraces = false) (hinj : Inj ad) {M : DS} {P' : OC → va_W → Prop} {a to : Nat} (ha : a < 6) (h7 : (M a).1 ≤ 8) (h8 : (M a).2.1 ≤ 8) : ∀ n v S, v + n = (M a).1 → G κ 7 δ (Kn κ (Ar ad)) (Qe κ δ (Ar ad) P') 0 0 (dl δ ad (va_up M 6 (fl (lvI (M a)) v n S))) [(0, .ref (ad 0)), (1, .int (nI to)), (4, .ref (mq ad a)), (5, .ref (mq ad 6))] [] 71 → G κ 7 δ (Kn κ (Ar ad)) (Qe κ δ (Ar ad) P') 0 0 (dl δ ad (va_up M 6 S)) [(6, .int (nI v)), (0, .ref (ad 0)), (1, .int (nI to)), (4, .ref (mq ad a)), (5, .ref (mq ad 6))] [] 46 := by
  intro n
  induction n with
  | zero =>
    intro v S hv hx
    refine g_iload X d_D_levels_46 rfl ?_
    refine g_aload X d_D_levels_48 rfl ?_
    refine r_rows X kf_D_58 d_D_levels_50 (by omega) ?_
    rw [va_up6 ha]
    refine g_icmp_ge X 71 d_D_levels_53 (by decide) (fun hc => ?_) (fun hc => ?_)
    · exact g_sb hx ⟨rfl, rfl, rfl, rfl, trivial⟩
    · exact absurd (nI_le (by omega) (by omega)) hc
  | succ n ih =>
    intro v S hv hx
    refine g_iload X d_D_levels_46 rfl ?_
    refine g_aload X d_D_levels_48 rfl ?_
    refine r_rows X kf_D_58 d_D_levels_50 (by omega) ?_
    rw [va_up6 ha]
    refine g_icmp_ge X 71 d_D_levels_53 (by decide) (fun hc => ?_) (fun hc => ?_)
    · exact absurd hc (nI_ge (by omega) (by omega))
    · clear hc
      refine g_aload X d_D_levels_56 rfl ?_
      refine g_aload X d_D_levels_58 rfl ?_
      refine g_iload X d_D_levels_60 rfl ?_
      have hC := c_D_nl htr hinj (δ := δ) (M := va_up M 6 S) (a := a) (lev := v) ha (by rw [va_up6 ha]; exact h7) (by rw [va_up6 ha]; exact h8)
      rw [va_up6 ha, va_up_s, bx_uu] at hC
      refine g_SN1 X s_D_129 (hC) d_D_levels_62 rfl ⟨Nat.le_of_ble_eq_true rfl, Nat.le_of_ble_eq_true rfl, Nat.le_of_ble_eq_true rfl, Nat.le_of_ble_eq_true rfl⟩ ?_
      refine g_iinc X d_D_levels_65 rfl (nI_1 _) (by decide) ?_
      refine g_goto X 46 d_D_levels_68 (by decide) ?_
      exact g_sb (ih (v + 1) (lvI (M a) v S) (by omega) hx) ⟨rfl, rfl, rfl, rfl, rfl, trivial⟩
set_option maxHeartbeats 4000000 in
set_option maxRecDepth 100000 in
theorem c_D_levels {l : Launch} (htr : l.stackTraces = false) {δ : EX} {ad : Nat → Nat} {M : DS} (hinj : Inj ad) {to a v : Nat} (hto : to < 6) (ha : a < 6) (hM : ∀ k, k < 6 → (M k).1 ≤ 8 ∧ (M k).2.1 ≤ 8) (hsq : (M a).1 = (M a).2.1) (hv : v < (M a).1) : CTN l y_D_levels cw_D_levels (RM 3) δ (Ar ad) (dl δ ad M) [.ref (ad 0), .int (nI to), .int (nI a), .int (nI v)] (some (.int (nI (cnt (fl (lvI (M a)) 0 (M a).1 (mEnter (mClear (M 6) 1 (M a).2.1) (8 * 0 + v) 0)).2.2.2 64)))) (KW δ ad to M (fl (lvI (M a)) 0 (M a).1 (mEnter (mClear (M 6) 1 (M a).2.1) (8 * 0 + v) 0))) := by
  refine CT.ofN (lv := [(0, .ref (ad 0)), (1, .int (nI to)), (2, .int (nI a)), (3, .int (nI v))]) (Or.inl ⟨rfl, rfl⟩) (by decide) htr rfl (Nat.le_of_ble_eq_true rfl) (fun κ hl X => ?_)
  subst hl
  have h7 := (hM a (by omega)).1
  have h8 := (hM a (by omega)).2
  refine g_iload_n X 1 d_D_levels_0 rfl rfl ?_
  refine g_SP X KOk.n s_D_20 (c_D_reqReg htr hto) d_D_levels_1 rfl ⟨Nat.le_of_ble_eq_true rfl, Nat.le_of_ble_eq_true rfl, Nat.le_of_ble_eq_true rfl, Nat.le_of_ble_eq_true rfl⟩ ?_
  refine g_aload_n X 0 d_D_levels_4 rfl rfl ?_
  refine g_iload_n X 2 d_D_levels_5 rfl rfl ?_
  refine g_VP X KOk.n v_D_123 (dl_0) rfl (c_D_reqGr htr ha hM hsq) d_D_levels_6 rfl ⟨Nat.le_of_ble_eq_true rfl, Nat.le_of_ble_eq_true rfl, Nat.le_of_ble_eq_true rfl, Nat.le_of_ble_eq_true rfl⟩ ?_
  refine g_aload_n X 0 d_D_levels_9 rfl rfl ?_
  refine r_regs X d_D_levels_10 ?_
  refine g_iload_n X 2 d_D_levels_13 rfl rfl ?_
  refine r_aald X rfl (by omega) d_D_levels_14 ?_
  refine g_astore X d_D_levels_15 (by decide) ?_
  refine g_aload X d_D_levels_17 rfl ?_
  refine g_iload_n X 3 d_D_levels_19 rfl rfl ?_
  refine g_SP X KOk.n s_D_126 (c_D_reqVe htr (by omega) hv h7) d_D_levels_20 rfl ⟨Nat.le_of_ble_eq_true rfl, Nat.le_of_ble_eq_true rfl, Nat.le_of_ble_eq_true rfl, Nat.le_of_ble_eq_true rfl⟩ ?_
  refine g_aload_n X 0 d_D_levels_23 rfl rfl ?_
  refine g_iconst X (v := nI 1) d_D_levels_24 (by decide) ?_
  refine g_aload X d_D_levels_25 rfl ?_
  refine r_cols X kf_D_62 d_D_levels_27 (by omega) ?_
  refine g_VN1 X v_D_85 (dl_0) rfl (c_D_blank htr hinj) d_D_levels_30 rfl ⟨Nat.le_of_ble_eq_true rfl, Nat.le_of_ble_eq_true rfl, Nat.le_of_ble_eq_true rfl, Nat.le_of_ble_eq_true rfl⟩ ?_
  refine g_astore X d_D_levels_33 (by decide) ?_
  refine g_aload X d_D_levels_35 rfl ?_
  refine g_iconst X (v := nI 0) d_D_levels_37 (by decide) ?_
  refine g_iload_n X 3 d_D_levels_38 rfl rfl ?_
  refine g_lconst X (v := 0) d_D_levels_39 (by decide) ?_
  refine g_VN1 X v_D_39 (dl_m (by omega)) rfl (c_M_enter htr hinj (by decide) (by decide) (by omega)) d_D_levels_40 rfl ⟨Nat.le_of_ble_eq_true rfl, Nat.le_of_ble_eq_true rfl, Nat.le_of_ble_eq_true rfl, Nat.le_of_ble_eq_true rfl⟩ ?_
  rw [va_up_s, bx_uu]
  refine g_iconst X (v := nI 0) d_D_levels_43 (by decide) ?_
  refine g_istore X d_D_levels_44 (by decide) ?_
  refine g_sb (l_D_levels X htr hinj ha h7 h8 (M a).1 0 (mEnter (mClear (M 6) 1 (M a).2.1) (8 * 0 + v) 0) (by omega) ?_) ⟨rfl, rfl, rfl, rfl, rfl, trivial⟩
  refine g_aload_n X 0 d_D_levels_71 rfl rfl ?_
  refine g_iload_n X 1 d_D_levels_72 rfl rfl ?_
  have hK := c_D_keep htr hinj (δ := δ) (M := va_up M 6 (fl (lvI (M a)) 0 (M a).1 (mEnter (mClear (M 6) 1 (M a).2.1) (8 * 0 + v) 0))) hto
  rw [va_up_s] at hK
  refine g_VN1 X v_D_101 (dl_0) rfl (hK) d_D_levels_73 rfl ⟨Nat.le_of_ble_eq_true rfl, Nat.le_of_ble_eq_true rfl, Nat.le_of_ble_eq_true rfl, Nat.le_of_ble_eq_true rfl⟩ ?_
  exact g_iret X KOk.n d_D_levels_76 ⟨rfl, rfl⟩
def coj (j : Nat) (S : Mx) : Mx := mEnter S (8 * 0 + j) (nI j).toInt64
def coI (G : Mx) (_ : Nat) (S : Mx) : Mx := fl (spi G) 0 G.1 S
set_option maxHeartbeats 4000000 in
set_option maxRecDepth 100000 in
theorem l_D_coj {κ : KX} {δ : EX} {ad : Nat → Nat} (X : XO κ R_D b_D_components 6 (some .int) δ (RM 2) (Ar ad) []) (htr : (xl κ).stackTraces = false) (hinj : Inj ad) {M : DS} {P' : OC → va_W → Prop} {a to : Nat} (ha : a < 6) (h7 : (M a).1 ≤ 8) (h8 : (M a).2.1 ≤ 8) : ∀ n j S, j + n = (M a).2.1 → G κ 6 δ (Kn κ (Ar ad)) (Qe κ δ (Ar ad) P') 0 0 (dl δ ad (va_up M 6 (fl coj j n S))) [(0, .ref (ad 0)), (1, .int (nI to)), (3, .ref (mq ad a)), (4, .ref (mq ad 6))] [] 56 → G κ 6 δ (Kn κ (Ar ad)) (Qe κ δ (Ar ad) P') 0 0 (dl δ ad (va_up M 6 S)) [(5, .int (nI j)), (0, .ref (ad 0)), (1, .int (nI to)), (3, .ref (mq ad a)), (4, .ref (mq ad 6))] [] 30 := by
  intro n
  induction n with
  | zero =>
    intro j S hj hx
    refine g_iload X d_D_components_30 rfl ?_
    refine g_aload_n X 3 d_D_components_32 rfl rfl ?_
    refine r_cols X kf_D_62 d_D_components_33 (by omega) ?_
    rw [va_up6 ha]
    refine g_icmp_ge X 56 d_D_components_36 (by decide) (fun hc => ?_) (fun hc => ?_)
    · exact g_sb hx ⟨rfl, rfl, rfl, rfl, trivial⟩
    · exact absurd (nI_le (by omega) (by omega)) hc
  | succ n ih =>
    intro j S hj hx
    refine g_iload X d_D_components_30 rfl ?_
    refine g_aload_n X 3 d_D_components_32 rfl rfl ?_
    refine r_cols X kf_D_62 d_D_components_33 (by omega) ?_
    rw [va_up6 ha]
    refine g_icmp_ge X 56 d_D_components_36 (by decide) (fun hc => ?_) (fun hc => ?_)
    · exact absurd hc (nI_ge (by omega) (by omega))
    · clear hc
      refine g_aload X d_D_components_39 rfl ?_
      refine g_iconst X (v := nI 0) d_D_components_41 (by decide) ?_
      refine g_iload X d_D_components_42 rfl ?_
      refine g_iload X d_D_components_44 rfl ?_
      refine g_i2l X d_D_components_46 ?_
      refine g_VN1 X v_D_39 (dl_m (by omega)) rfl (c_M_enter htr hinj (by omega) (by decide) (by omega)) d_D_components_47 rfl ⟨Nat.le_of_ble_eq_true rfl, Nat.le_of_ble_eq_true rfl, Nat.le_of_ble_eq_true rfl, Nat.le_of_ble_eq_true rfl⟩ ?_
      rw [va_up_s, bx_uu]
      refine g_iinc X d_D_components_50 rfl (nI_1 _) (by decide) ?_
      refine g_goto X 30 d_D_components_53 (by decide) ?_
      exact g_sb (ih (j + 1) (coj j S) (by omega) hx) ⟨rfl, rfl, rfl, rfl, rfl, trivial⟩
set_option maxHeartbeats 4000000 in
set_option maxRecDepth 100000 in
theorem l_D_coI {κ : KX} {δ : EX} {ad : Nat → Nat} (X : XO κ R_D b_D_components 6 (some .int) δ (RM 2) (Ar ad) []) (htr : (xl κ).stackTraces = false) (hinj : Inj ad) {M : DS} {P' : OC → va_W → Prop} {a to : Nat} (ha : a < 6) (h7 : (M a).1 ≤ 8) (h8 : (M a).2.1 ≤ 8) : ∀ n v S, v + n = (M a).1 → G κ 6 δ (Kn κ (Ar ad)) (Qe κ δ (Ar ad) P') 0 0 (dl δ ad (va_up M 6 (fl (coI (M a)) v n S))) [(0, .ref (ad 0)), (1, .int (nI to)), (3, .ref (mq ad a)), (4, .ref (mq ad 6))] [] 80 → G κ 6 δ (Kn κ (Ar ad)) (Qe κ δ (Ar ad) P') 0 0 (dl δ ad (va_up M 6 S)) [(5, .int (nI v)), (0, .ref (ad 0)), (1, .int (nI to)), (3, .ref (mq ad a)), (4, .ref (mq ad 6))] [] 59 := by
  intro n
  induction n with
  | zero =>
    intro v S hv hx
    refine g_iload X d_D_components_59 rfl ?_
    refine g_aload_n X 3 d_D_components_61 rfl rfl ?_
    refine r_rows X kf_D_58 d_D_components_62 (by omega) ?_
    rw [va_up6 ha]
    refine g_icmp_ge X 80 d_D_components_65 (by decide) (fun hc => ?_) (fun hc => ?_)
    · exact g_sb hx ⟨rfl, rfl, rfl, rfl, trivial⟩
    · exact absurd (nI_le (by omega) (by omega)) hc
  | succ n ih =>
    intro v S hv hx
    refine g_iload X d_D_components_59 rfl ?_
    refine g_aload_n X 3 d_D_components_61 rfl rfl ?_
    refine r_rows X kf_D_58 d_D_components_62 (by omega) ?_
    rw [va_up6 ha]
    refine g_icmp_ge X 80 d_D_components_65 (by decide) (fun hc => ?_) (fun hc => ?_)
    · exact absurd hc (nI_ge (by omega) (by omega))
    · clear hc
      refine g_aload X d_D_components_68 rfl ?_
      refine g_aload_n X 3 d_D_components_70 rfl rfl ?_
      have hC := c_D_sp htr hinj (δ := δ) (M := va_up M 6 S) (a := a) ha (by rw [va_up6 ha]; exact h7) (by rw [va_up6 ha]; exact h8)
      rw [va_up6 ha, va_up_s, bx_uu] at hC
      refine g_SN1 X s_D_142 (hC) d_D_components_71 rfl ⟨Nat.le_of_ble_eq_true rfl, Nat.le_of_ble_eq_true rfl, Nat.le_of_ble_eq_true rfl, Nat.le_of_ble_eq_true rfl⟩ ?_
      refine g_iinc X d_D_components_74 rfl (nI_1 _) (by decide) ?_
      refine g_goto X 59 d_D_components_77 (by decide) ?_
      exact g_sb (ih (v + 1) (coI (M a) v S) (by omega) hx) ⟨rfl, rfl, rfl, rfl, rfl, trivial⟩
set_option maxHeartbeats 4000000 in
set_option maxRecDepth 100000 in
theorem c_D_components {l : Launch} (htr : l.stackTraces = false) {δ : EX} {ad : Nat → Nat} {M : DS} (hinj : Inj ad) {to a : Nat} (hto : to < 6) (ha : a < 6) (hM : ∀ k, k < 6 → (M k).1 ≤ 8 ∧ (M k).2.1 ≤ 8) (hsq : (M a).1 = (M a).2.1) : CTN l y_D_components cw_D_components (RM 2) δ (Ar ad) (dl δ ad M) [.ref (ad 0), .int (nI to), .int (nI a)] (some (.int (nI (cnt (fl (coI (M a)) 0 (M a).1 (fl coj 0 (M a).2.1 (mClear (M 6) 1 (M a).2.1))).2.2.2 64)))) (KW δ ad to M (fl (coI (M a)) 0 (M a).1 (fl coj 0 (M a).2.1 (mClear (M 6) 1 (M a).2.1)))) := by
  refine CT.ofN (lv := [(0, .ref (ad 0)), (1, .int (nI to)), (2, .int (nI a))]) (Or.inl ⟨rfl, rfl⟩) (by decide) htr rfl (Nat.le_of_ble_eq_true rfl) (fun κ hl X => ?_)
  subst hl
  have h7 := (hM a (by omega)).1
  have h8 := (hM a (by omega)).2
  refine g_iload_n X 1 d_D_components_0 rfl rfl ?_
  refine g_SP X KOk.n s_D_20 (c_D_reqReg htr hto) d_D_components_1 rfl ⟨Nat.le_of_ble_eq_true rfl, Nat.le_of_ble_eq_true rfl, Nat.le_of_ble_eq_true rfl, Nat.le_of_ble_eq_true rfl⟩ ?_
  refine g_aload_n X 0 d_D_components_4 rfl rfl ?_
  refine g_iload_n X 2 d_D_components_5 rfl rfl ?_
  refine g_VP X KOk.n v_D_123 (dl_0) rfl (c_D_reqGr htr ha hM hsq) d_D_components_6 rfl ⟨Nat.le_of_ble_eq_true rfl, Nat.le_of_ble_eq_true rfl, Nat.le_of_ble_eq_true rfl, Nat.le_of_ble_eq_true rfl⟩ ?_
  refine g_aload_n X 0 d_D_components_9 rfl rfl ?_
  refine r_regs X d_D_components_10 ?_
  refine g_iload_n X 2 d_D_components_13 rfl rfl ?_
  refine r_aald X rfl (by omega) d_D_components_14 ?_
  refine g_astore_n X 3 d_D_components_15 rfl (by decide) ?_
  refine g_aload_n X 0 d_D_components_16 rfl rfl ?_
  refine g_iconst X (v := nI 1) d_D_components_17 (by decide) ?_
  refine g_aload_n X 3 d_D_components_18 rfl rfl ?_
  refine r_cols X kf_D_62 d_D_components_19 (by omega) ?_
  refine g_VN1 X v_D_85 (dl_0) rfl (c_D_blank htr hinj) d_D_components_22 rfl ⟨Nat.le_of_ble_eq_true rfl, Nat.le_of_ble_eq_true rfl, Nat.le_of_ble_eq_true rfl, Nat.le_of_ble_eq_true rfl⟩ ?_
  refine g_astore X d_D_components_25 (by decide) ?_
  refine g_iconst X (v := nI 0) d_D_components_27 (by decide) ?_
  refine g_istore X d_D_components_28 (by decide) ?_
  refine g_sb (l_D_coj X htr hinj ha h7 h8 (M a).2.1 0 (mClear (M 6) 1 (M a).2.1) (by omega) ?_) ⟨rfl, rfl, rfl, rfl, rfl, trivial⟩
  refine g_iconst X (v := nI 0) d_D_components_56 (by decide) ?_
  refine g_istore X d_D_components_57 (by decide) ?_
  refine g_sb (l_D_coI X htr hinj ha h7 h8 (M a).1 0 (fl coj 0 (M a).2.1 (mClear (M 6) 1 (M a).2.1)) (by omega) ?_) ⟨rfl, rfl, rfl, rfl, rfl, trivial⟩
  refine g_aload_n X 0 d_D_components_80 rfl rfl ?_
  refine g_iload_n X 1 d_D_components_81 rfl rfl ?_
  have hK := c_D_keep htr hinj (δ := δ) (M := va_up M 6 (fl (coI (M a)) 0 (M a).1 (fl coj 0 (M a).2.1 (mClear (M 6) 1 (M a).2.1)))) hto
  rw [va_up_s] at hK
  refine g_VN1 X v_D_101 (dl_0) rfl (hK) d_D_components_82 rfl ⟨Nat.le_of_ble_eq_true rfl, Nat.le_of_ble_eq_true rfl, Nat.le_of_ble_eq_true rfl, Nat.le_of_ble_eq_true rfl⟩ ?_
  exact g_iret X KOk.n d_D_components_85 ⟨rfl, rfl⟩
set_option maxHeartbeats 4000000 in
set_option maxRecDepth 100000 in
theorem c_D_triangles_x1 {l : Launch} (htr : l.stackTraces = false) {δ : EX} {ad : Nat → Nat} {M : DS} {x : Int32} (h : bR x) : CTP l y_D_triangles cw_D_triangles (RM 2) δ (dl δ ad M) [.ref (ad 0), .int x] (.inl 1) := by
  refine CT.ofP (lv := [(0, .ref (ad 0)), (1, .int x)]) (Or.inl ⟨rfl, rfl⟩) (by decide) htr rfl (Nat.le_of_ble_eq_true rfl) (fun κ hl X => ?_)
  subst hl
  refine g_aload_n X 0 d_D_triangles_0 rfl rfl ?_
  refine g_iload_n X 1 d_D_triangles_1 rfl rfl ?_
  exact g_VT X KOk.p v_D_123 (dl_0) rfl (c_D_reqGr_x1 htr h) d_D_triangles_2 rfl ⟨Nat.le_of_ble_eq_true rfl, Nat.le_of_ble_eq_true rfl, Nat.le_of_ble_eq_true rfl, Nat.le_of_ble_eq_true rfl⟩ ⟨rfl, rfl⟩
set_option maxHeartbeats 4000000 in
set_option maxRecDepth 100000 in
theorem c_D_triangles_x2 {l : Launch} (htr : l.stackTraces = false) {δ : EX} {ad : Nat → Nat} {M : DS} {a : Nat} (ha : a < 6) (hM : ∀ k, k < 6 → (M k).1 ≤ 8 ∧ (M k).2.1 ≤ 8) (h : ¬ (M a).1 = (M a).2.1) : CTP l y_D_triangles cw_D_triangles (RM 2) δ (dl δ ad M) [.ref (ad 0), .int (nI a)] (.inl 2) := by
  refine CT.ofP (lv := [(0, .ref (ad 0)), (1, .int (nI a))]) (Or.inl ⟨rfl, rfl⟩) (by decide) htr rfl (Nat.le_of_ble_eq_true rfl) (fun κ hl X => ?_)
  subst hl
  refine g_aload_n X 0 d_D_triangles_0 rfl rfl ?_
  refine g_iload_n X 1 d_D_triangles_1 rfl rfl ?_
  exact g_VT X KOk.p v_D_123 (dl_0) rfl (c_D_reqGr_x2 htr ha hM h) d_D_triangles_2 rfl ⟨Nat.le_of_ble_eq_true rfl, Nat.le_of_ble_eq_true rfl, Nat.le_of_ble_eq_true rfl, Nat.le_of_ble_eq_true rfl⟩ ⟨rfl, rfl⟩
/-- triples: as the class counts them -/
def tgi (G : Mx) (t j i c : Nat) : Nat := if mHas G (8 * j + i) = true ∧ mHas G (8 * t + i) = true ∧ mHas G (8 * t + j) = true then c + 1 else c
def tgj (G : Mx) (t j c : Nat) : Nat := fl (tgi G t j) 0 j c
def tgt (G : Mx) (t c : Nat) : Nat := fl (tgj G t) 0 t c
set_option maxHeartbeats 4000000 in
set_option maxRecDepth 100000 in
theorem l_D_tgi {κ : KX} {δ : EX} {ad : Nat → Nat} (X : XO κ R_D b_D_triangles 7 (some .int) δ (RM 2) NoA []) (htr : (xl κ).stackTraces = false) {M : DS} {P' : OC → va_W → Prop} {a : Nat} (ha : a < 6) (h7 : (M a).1 ≤ 8) {t j : Nat} (htt : t < 8) (hjj : j < t) : ∀ n i c, i + n = j → G κ 7 δ (Kp κ) (Qe κ δ NoA P') 0 0 (dl δ ad M) [(4, .int (nI t)), (5, .int (nI j)), (3, .int (nI (fl (tgi (M a) t j) i n c))), (2, .ref (mq ad a))] [] 88 → G κ 7 δ (Kp κ) (Qe κ δ NoA P') 0 0 (dl δ ad M) [(6, .int (nI i)), (4, .int (nI t)), (5, .int (nI j)), (3, .int (nI c)), (2, .ref (mq ad a))] [] 39 := by
  intro n
  induction n with
  | zero =>
    intro i c hi hx
    refine g_iload X d_D_triangles_39 rfl ?_
    refine g_iload X d_D_triangles_41 rfl ?_
    refine g_icmp_ge X 88 d_D_triangles_43 (by decide) (fun hc => ?_) (fun hc => ?_)
    · exact g_sb hx ⟨rfl, rfl, rfl, rfl, trivial⟩
    · exact absurd (nI_le (by omega) (by omega)) hc
  | succ n ih =>
    intro i c hi hx
    refine g_iload X d_D_triangles_39 rfl ?_
    refine g_iload X d_D_triangles_41 rfl ?_
    refine g_icmp_ge X 88 d_D_triangles_43 (by decide) (fun hc => ?_) (fun hc => ?_)
    · exact absurd hc (nI_ge (by omega) (by omega))
    · clear hc
      have no : tgi (M a) t j i c = c → G κ 7 δ (Kp κ) (Qe κ δ NoA P') 0 0 (dl δ ad M) [(6, .int (nI i)), (4, .int (nI t)), (5, .int (nI j)), (3, .int (nI c)), (2, .ref (mq ad a))] [] 82 := fun e => by
        simp only [fl, e] at hx
        refine g_iinc X d_D_triangles_82 rfl (nI_1 _) (by decide) ?_
        refine g_goto X 39 d_D_triangles_85 (by decide) ?_
        exact g_sb (ih (i + 1) c (by omega) hx) ⟨rfl, rfl, rfl, rfl, rfl, trivial⟩
      refine g_aload_n X 2 d_D_triangles_46 rfl rfl ?_
      refine g_iload X d_D_triangles_47 rfl ?_
      refine g_iload X d_D_triangles_49 rfl ?_
      refine g_VP X KOk.p v_D_43 (dl_m (by omega)) rfl (c_M_has htr (by omega) (by omega) (by omega)) d_D_triangles_51 rfl ⟨Nat.le_of_ble_eq_true rfl, Nat.le_of_ble_eq_true rfl, Nat.le_of_ble_eq_true rfl, Nat.le_of_ble_eq_true rfl⟩ ?_
      refine g_if_eq X 82 d_D_triangles_54 (by decide) (fun hc => ?_) (fun hc => ?_)
      · have h := b2_0.mp hc
        exact no (by simp [tgi, h])
      have g1 := b2_t hc
      refine g_aload_n X 2 d_D_triangles_57 rfl rfl ?_
      refine g_iload X d_D_triangles_58 rfl ?_
      refine g_iload X d_D_triangles_60 rfl ?_
      refine g_VP X KOk.p v_D_43 (dl_m (by omega)) rfl (c_M_has htr (by omega) (by omega) (by omega)) d_D_triangles_62 rfl ⟨Nat.le_of_ble_eq_true rfl, Nat.le_of_ble_eq_true rfl, Nat.le_of_ble_eq_true rfl, Nat.le_of_ble_eq_true rfl⟩ ?_
      refine g_if_eq X 82 d_D_triangles_65 (by decide) (fun hd => ?_) (fun hd => ?_)
      · have h := b2_0.mp hd
        exact no (by simp [tgi, h])
      have g2 := b2_t hd
      refine g_aload_n X 2 d_D_triangles_68 rfl rfl ?_
      refine g_iload X d_D_triangles_69 rfl ?_
      refine g_iload X d_D_triangles_71 rfl ?_
      refine g_VP X KOk.p v_D_43 (dl_m (by omega)) rfl (c_M_has htr (by omega) (by omega) (by omega)) d_D_triangles_73 rfl ⟨Nat.le_of_ble_eq_true rfl, Nat.le_of_ble_eq_true rfl, Nat.le_of_ble_eq_true rfl, Nat.le_of_ble_eq_true rfl⟩ ?_
      refine g_if_eq X 82 d_D_triangles_76 (by decide) (fun he => ?_) (fun he => ?_)
      · have h := b2_0.mp he
        exact no (by simp [tgi, h])
      have g3 := b2_t he
      have e : tgi (M a) t j i c = c + 1 := by simp [tgi, g1, g2, g3]
      simp only [fl, e] at hx
      refine g_iinc X d_D_triangles_79 rfl (nI_1 _) (by decide) ?_
      refine g_iinc X d_D_triangles_82 rfl (nI_1 _) (by decide) ?_
      refine g_goto X 39 d_D_triangles_85 (by decide) ?_
      exact g_sb (ih (i + 1) (c + 1) (by omega) hx) ⟨rfl, rfl, rfl, rfl, rfl, trivial⟩
set_option maxHeartbeats 4000000 in
set_option maxRecDepth 100000 in
theorem l_D_tgj {κ : KX} {δ : EX} {ad : Nat → Nat} (X : XO κ R_D b_D_triangles 7 (some .int) δ (RM 2) NoA []) (htr : (xl κ).stackTraces = false) {M : DS} {P' : OC → va_W → Prop} {a : Nat} (ha : a < 6) (h7 : (M a).1 ≤ 8) {t : Nat} (htt : t < 8) : ∀ n j c, j + n = t → G κ 7 δ (Kp κ) (Qe κ δ NoA P') 0 0 (dl δ ad M) [(4, .int (nI t)), (3, .int (nI (fl (tgj (M a) t) j n c))), (2, .ref (mq ad a))] [] 94 → G κ 7 δ (Kp κ) (Qe κ δ NoA P') 0 0 (dl δ ad M) [(5, .int (nI j)), (4, .int (nI t)), (3, .int (nI c)), (2, .ref (mq ad a))] [] 29 := by
  intro n
  induction n with
  | zero =>
    intro j c hj hx
    refine g_iload X d_D_triangles_29 rfl ?_
    refine g_iload X d_D_triangles_31 rfl ?_
    refine g_icmp_ge X 94 d_D_triangles_33 (by decide) (fun hc => ?_) (fun hc => ?_)
    · exact g_sb hx ⟨rfl, rfl, rfl, trivial⟩
    · exact absurd (nI_le (by omega) (by omega)) hc
  | succ n ih =>
    intro j c hj hx
    refine g_iload X d_D_triangles_29 rfl ?_
    refine g_iload X d_D_triangles_31 rfl ?_
    refine g_icmp_ge X 94 d_D_triangles_33 (by decide) (fun hc => ?_) (fun hc => ?_)
    · exact absurd hc (nI_ge (by omega) (by omega))
    · clear hc
      refine g_iconst X (v := nI 0) d_D_triangles_36 (by decide) ?_
      refine g_istore X d_D_triangles_37 (by decide) ?_
      refine g_sb (l_D_tgi X htr ha h7 htt (by omega) j 0 c (by omega) ?_) ⟨rfl, rfl, rfl, rfl, rfl, trivial⟩
      refine g_iinc X d_D_triangles_88 rfl (nI_1 _) (by decide) ?_
      refine g_goto X 29 d_D_triangles_91 (by decide) ?_
      exact g_sb (ih (j + 1) (tgj (M a) t j c) (by omega) hx) ⟨rfl, rfl, rfl, rfl, trivial⟩
set_option maxHeartbeats 4000000 in
set_option maxRecDepth 100000 in
theorem l_D_tgt {κ : KX} {δ : EX} {ad : Nat → Nat} (X : XO κ R_D b_D_triangles 7 (some .int) δ (RM 2) NoA []) (htr : (xl κ).stackTraces = false) {M : DS} {P' : OC → va_W → Prop} {a : Nat} (ha : a < 6) (h7 : (M a).1 ≤ 8) : ∀ n t c, t + n = (M a).1 → G κ 7 δ (Kp κ) (Qe κ δ NoA P') 0 0 (dl δ ad M) [(3, .int (nI (fl (tgt (M a)) t n c))), (2, .ref (mq ad a))] [] 100 → G κ 7 δ (Kp κ) (Qe κ δ NoA P') 0 0 (dl δ ad M) [(4, .int (nI t)), (3, .int (nI c)), (2, .ref (mq ad a))] [] 17 := by
  intro n
  induction n with
  | zero =>
    intro t c ht hx
    refine g_iload X d_D_triangles_17 rfl ?_
    refine g_aload_n X 2 d_D_triangles_19 rfl rfl ?_
    refine r_rows X kf_D_58 d_D_triangles_20 (by omega) ?_
    refine g_icmp_ge X 100 d_D_triangles_23 (by decide) (fun hc => ?_) (fun hc => ?_)
    · exact g_sb hx ⟨rfl, rfl, trivial⟩
    · exact absurd (nI_le (by omega) (by omega)) hc
  | succ n ih =>
    intro t c ht hx
    refine g_iload X d_D_triangles_17 rfl ?_
    refine g_aload_n X 2 d_D_triangles_19 rfl rfl ?_
    refine r_rows X kf_D_58 d_D_triangles_20 (by omega) ?_
    refine g_icmp_ge X 100 d_D_triangles_23 (by decide) (fun hc => ?_) (fun hc => ?_)
    · exact absurd hc (nI_ge (by omega) (by omega))
    · clear hc
      refine g_iconst X (v := nI 0) d_D_triangles_26 (by decide) ?_
      refine g_istore X d_D_triangles_27 (by decide) ?_
      refine g_sb (l_D_tgj X htr ha h7 (by omega) t 0 c (by omega) ?_) ⟨rfl, rfl, rfl, rfl, trivial⟩
      refine g_iinc X d_D_triangles_94 rfl (nI_1 _) (by decide) ?_
      refine g_goto X 17 d_D_triangles_97 (by decide) ?_
      exact g_sb (ih (t + 1) (tgt (M a) t c) (by omega) hx) ⟨rfl, rfl, rfl, trivial⟩
set_option maxHeartbeats 4000000 in
set_option maxRecDepth 100000 in
theorem c_D_triangles {l : Launch} (htr : l.stackTraces = false) {δ : EX} {ad : Nat → Nat} {M : DS} {a : Nat} (ha : a < 6) (hM : ∀ k, k < 6 → (M k).1 ≤ 8 ∧ (M k).2.1 ≤ 8) (hsq : (M a).1 = (M a).2.1) : CTP l y_D_triangles cw_D_triangles (RM 2) δ (dl δ ad M) [.ref (ad 0), .int (nI a)] (.inr (some (.int (nI (fl (tgt (M a)) 0 (M a).1 0))))) := by
  refine CT.ofP (lv := [(0, .ref (ad 0)), (1, .int (nI a))]) (Or.inl ⟨rfl, rfl⟩) (by decide) htr rfl (Nat.le_of_ble_eq_true rfl) (fun κ hl X => ?_)
  subst hl
  refine g_aload_n X 0 d_D_triangles_0 rfl rfl ?_
  refine g_iload_n X 1 d_D_triangles_1 rfl rfl ?_
  refine g_VP X KOk.p v_D_123 (dl_0) rfl (c_D_reqGr htr ha hM hsq) d_D_triangles_2 rfl ⟨Nat.le_of_ble_eq_true rfl, Nat.le_of_ble_eq_true rfl, Nat.le_of_ble_eq_true rfl, Nat.le_of_ble_eq_true rfl⟩ ?_
  refine g_aload_n X 0 d_D_triangles_5 rfl rfl ?_
  refine r_regs X d_D_triangles_6 ?_
  refine g_iload_n X 1 d_D_triangles_9 rfl rfl ?_
  refine r_aald X rfl (by omega) d_D_triangles_10 ?_
  refine g_astore_n X 2 d_D_triangles_11 rfl (by decide) ?_
  refine g_iconst X (v := nI 0) d_D_triangles_12 (by decide) ?_
  refine g_istore_n X 3 d_D_triangles_13 rfl (by decide) ?_
  refine g_iconst X (v := nI 0) d_D_triangles_14 (by decide) ?_
  refine g_istore X d_D_triangles_15 (by decide) ?_
  refine g_sb (l_D_tgt X htr ha (hM a (by omega)).1 (M a).1 0 0 (by omega) ?_) ⟨rfl, rfl, rfl, trivial⟩
  refine g_iload_n X 3 d_D_triangles_100 rfl rfl ?_
  exact g_iret X KOk.p d_D_triangles_101 ⟨rfl, rfl⟩
end PC3
