section PD
set_option maxHeartbeats 4000000 in
set_option maxRecDepth 100000 in
theorem c_D_paths_x4 {l : Launch} (htr : l.stackTraces = false) {δ : EX} {ad : Nat → Nat} {M : DS} {to a : Nat} (hto : to < 6) (ha : a < 6) (hM : ∀ k, k < 6 → (M k).1 ≤ 8 ∧ (M k).2.1 ≤ 8) (hsq : (M a).1 = (M a).2.1) (h : ¬ leL (M a)) : CTP l y_D_paths cw_D_paths (RM 5) δ (dl δ ad M) [.ref (ad 0), .int (nI to), .int (nI a)] (.inl 4) := by
  refine CT.ofP (lv := [(0, .ref (ad 0)), (1, .int (nI to)), (2, .int (nI a))]) (Or.inl ⟨rfl, rfl⟩) (by decide) htr rfl (Nat.le_of_ble_eq_true rfl) (fun κ hl X => ?_)
  subst hl
  refine g_iload_n X 1 d_D_paths_0 rfl rfl ?_
  refine g_SP X KOk.p s_D_20 (c_D_reqReg htr hto) d_D_paths_1 rfl ⟨Nat.le_of_ble_eq_true rfl, Nat.le_of_ble_eq_true rfl, Nat.le_of_ble_eq_true rfl, Nat.le_of_ble_eq_true rfl⟩ ?_
  refine g_aload_n X 0 d_D_paths_4 rfl rfl ?_
  refine g_iload_n X 2 d_D_paths_5 rfl rfl ?_
  refine g_VP X KOk.p v_D_123 (dl_0) rfl (c_D_reqGr htr ha hM hsq) d_D_paths_6 rfl ⟨Nat.le_of_ble_eq_true rfl, Nat.le_of_ble_eq_true rfl, Nat.le_of_ble_eq_true rfl, Nat.le_of_ble_eq_true rfl⟩ ?_
  refine g_aload_n X 0 d_D_paths_9 rfl rfl ?_
  refine r_regs X d_D_paths_10 ?_
  refine g_iload_n X 2 d_D_paths_13 rfl rfl ?_
  refine r_aald X rfl (by omega) d_D_paths_14 ?_
  refine g_astore_n X 3 d_D_paths_15 rfl (by decide) ?_
  refine g_aload_n X 3 d_D_paths_16 rfl rfl ?_
  exact g_ST X KOk.p s_D_132 (c_D_le_x htr ha (hM a (by omega)).1 (hM a (by omega)).2 h) d_D_paths_17 rfl ⟨Nat.le_of_ble_eq_true rfl, Nat.le_of_ble_eq_true rfl, Nat.le_of_ble_eq_true rfl, Nat.le_of_ble_eq_true rfl⟩ ⟨rfl, rfl⟩
def dgj (i : Nat) (S : Mx) : Option Mx := gaS 1 S (8 * i + i) 0
/-- is no vertex on a circle shorter than 0 -/
def ciB (S : Mx) : Bool := decide (∀ i, i < S.1 → ¬ mVal S (8 * i + i) < 0)
theorem ciB_t {S : Mx} (h : ciB S = true) : ciL S := by
  unfold ciB at h
  unfold ciL
  exact of_decide_eq_true h
theorem ciB_f {S : Mx} (h : ciB S = false) : ¬ ciL S := by
  unfold ciB at h
  unfold ciL
  exact of_decide_eq_false h
/-- over one vertex after the other -/
def paL (R C : Nat) : Nat → Nat → Mx → Nat ⊕ Mx
  | _, 0, S => .inr S
  | o, n + 1, S => match fo (shi C o) 0 R S with
    | none => .inl 4
    | some S' => if ciB S' = true then paL R C (o + 1) n S' else .inl 3
def paR (F S0 : Mx) : Nat ⊕ Mx := match (gA 1 F S0).bind (fo dgj 0 F.1) with
  | none => .inl 4
  | some S => paL F.1 F.2.1 0 F.1 S
def PP (δ : EX) (ad : Nat → Nat) (M : DS) (to : Nat) (o : Nat ⊕ Mx) : OC → va_W → Prop := fun r w => (∃ S, o = .inr S ∧ r = .inr (some (.int (nI (cnt S.2.2.2 64)))) ∧ w = KW δ ad to M S) ∨ (∃ z S, o = .inl z ∧ r = .inl z ∧ w = dl δ ad (va_up M 6 S))
set_option maxHeartbeats 4000000 in
set_option maxRecDepth 100000 in
theorem l_D_dg {κ : KX} {δ : EX} {ad : Nat → Nat} (X : XO κ R_D b_D_paths 6 (some .int) δ (RM 5) (Ar ad) []) (htr : (xl κ).stackTraces = false) (hinj : Inj ad) {M : DS} {P' : OC → va_W → Prop} {a to : Nat} (ha : a < 6) (h7 : (M a).1 ≤ 8) (h8 : (M a).2.1 ≤ 8) : ∀ n i S, i + n = (M a).1 → (∀ S', fo dgj i n S = some S' → G κ 6 δ (Kn κ (Ar ad)) (Qe κ δ (Ar ad) P') 0 0 (dl δ ad (va_up M 6 S')) [(0, .ref (ad 0)), (1, .int (nI to)), (3, .ref (mq ad a)), (4, .ref (mq ad 6))] [] 70) → (fo dgj i n S = none → ∀ S', P' (.inl 4) (dl δ ad (va_up M 6 S'))) → G κ 6 δ (Kn κ (Ar ad)) (Qe κ δ (Ar ad) P') 0 0 (dl δ ad (va_up M 6 S)) [(5, .int (nI i)), (0, .ref (ad 0)), (1, .int (nI to)), (3, .ref (mq ad a)), (4, .ref (mq ad 6))] [] 44 := by
  intro n
  induction n with
  | zero =>
    intro i S hi hx ht
    refine g_iload X d_D_paths_44 rfl ?_
    refine g_aload_n X 3 d_D_paths_46 rfl rfl ?_
    refine r_rows X kf_D_58 d_D_paths_47 (by omega) ?_
    rw [va_up6 ha]
    refine g_icmp_ge X 70 d_D_paths_50 (by decide) (fun hc => ?_) (fun hc => ?_)
    · exact g_sb (hx S rfl) ⟨rfl, rfl, rfl, rfl, trivial⟩
    · exact absurd (nI_le (by omega) (by omega)) hc
  | succ n ih =>
    intro i S hi hx ht
    refine g_iload X d_D_paths_44 rfl ?_
    refine g_aload_n X 3 d_D_paths_46 rfl rfl ?_
    refine r_rows X kf_D_58 d_D_paths_47 (by omega) ?_
    rw [va_up6 ha]
    refine g_icmp_ge X 70 d_D_paths_50 (by decide) (fun hc => ?_) (fun hc => ?_)
    · exact absurd hc (nI_ge (by omega) (by omega))
    · clear hc
      refine g_aload X d_D_paths_53 rfl ?_
      refine g_iload X d_D_paths_55 rfl ?_
      refine g_iload X d_D_paths_57 rfl ?_
      refine g_lconst X (v := 0) d_D_paths_59 (by decide) ?_
      refine g_iconst X (v := nI 1) d_D_paths_60 (by decide) ?_
      refine g_SPO X s_D_119 (c_D_gather htr hinj (by omega) (by omega) (by decide)) d_D_paths_61 rfl ⟨Nat.le_of_ble_eq_true rfl, Nat.le_of_ble_eq_true rfl, Nat.le_of_ble_eq_true rfl, Nat.le_of_ble_eq_true rfl⟩ (fun S' hS => ?_) (fun hS S' => ?_)
      · rw [va_up_s] at hS
        rw [fo_s (f := dgj) hS] at hx ht
        refine g_iinc X d_D_paths_64 rfl (nI_1 _) (by decide) ?_
        refine g_goto X 44 d_D_paths_67 (by decide) ?_
        exact g_sb (ih (i + 1) S' (by omega) hx ht) ⟨rfl, rfl, rfl, rfl, rfl, trivial⟩
      · rw [va_up_s] at hS
        exact ht (fo_n (f := dgj) hS) S'
set_option maxHeartbeats 4000000 in
set_option maxRecDepth 100000 in
theorem l_D_pa {κ : KX} {δ : EX} {ad : Nat → Nat} (X : XO κ R_D b_D_paths 6 (some .int) δ (RM 5) (Ar ad) []) (htr : (xl κ).stackTraces = false) (hinj : Inj ad) {M : DS} {P' : OC → va_W → Prop} {a to : Nat} (ha : a < 6) (h7 : (M a).1 ≤ 8) (h8 : (M a).2.1 ≤ 8) : ∀ n o S, o + n = (M a).1 → S.1 = (M a).1 → S.2.1 = (M a).2.1 → (∀ S', paL (M a).1 (M a).2.1 o n S = .inr S' → G κ 6 δ (Kn κ (Ar ad)) (Qe κ δ (Ar ad) P') 0 0 (dl δ ad (va_up M 6 S')) [(0, .ref (ad 0)), (1, .int (nI to)), (3, .ref (mq ad a)), (4, .ref (mq ad 6))] [] 100) → (∀ z, paL (M a).1 (M a).2.1 o n S = .inl z → ∀ S', P' (.inl z) (dl δ ad (va_up M 6 S'))) → G κ 6 δ (Kn κ (Ar ad)) (Qe κ δ (Ar ad) P') 0 0 (dl δ ad (va_up M 6 S)) [(5, .int (nI o)), (0, .ref (ad 0)), (1, .int (nI to)), (3, .ref (mq ad a)), (4, .ref (mq ad 6))] [] 73 := by
  intro n
  induction n with
  | zero =>
    intro o S ho h1 h2 hx ht
    refine g_iload X d_D_paths_73 rfl ?_
    refine g_aload_n X 3 d_D_paths_75 rfl rfl ?_
    refine r_rows X kf_D_58 d_D_paths_76 (by omega) ?_
    rw [va_up6 ha]
    refine g_icmp_ge X 100 d_D_paths_79 (by decide) (fun hc => ?_) (fun hc => ?_)
    · exact g_sb (hx S rfl) ⟨rfl, rfl, rfl, rfl, trivial⟩
    · exact absurd (nI_le (by omega) (by omega)) hc
  | succ n ih =>
    intro o S ho h1 h2 hx ht
    refine g_iload X d_D_paths_73 rfl ?_
    refine g_aload_n X 3 d_D_paths_75 rfl rfl ?_
    refine r_rows X kf_D_58 d_D_paths_76 (by omega) ?_
    rw [va_up6 ha]
    refine g_icmp_ge X 100 d_D_paths_79 (by decide) (fun hc => ?_) (fun hc => ?_)
    · exact absurd hc (nI_ge (by omega) (by omega))
    · clear hc
      refine g_aload X d_D_paths_82 rfl ?_
      refine g_iload X d_D_paths_84 rfl ?_
      refine g_SPO X s_D_136 (c_D_sh htr hinj (by omega) (by rw [va_up_s, h1]; exact h7) (by rw [va_up_s, h2]; exact h8)) d_D_paths_86 rfl ⟨Nat.le_of_ble_eq_true rfl, Nat.le_of_ble_eq_true rfl, Nat.le_of_ble_eq_true rfl, Nat.le_of_ble_eq_true rfl⟩ (fun S' hS => ?_) (fun hS S' => ?_)
      · rw [va_up_s, h1, h2] at hS
        have q := fo_sh (f := shi (M a).2.1 o) (fun i S S' h => fo_sh (f := shj o i) (fun _ _ _ h => shj_sh h) _ _ _ _ h) _ _ _ _ hS
        have k1 := q.1.trans h1
        have k2 := q.2.trans h2
        simp only [paL, hS] at hx ht
        refine g_aload X d_D_paths_89 rfl ?_
        cases hq : ciB S' with
        | true =>
          simp only [hq, if_true] at hx ht
          have hC := c_D_ci htr (δ := δ) (ad := ad) (M := va_up M 6 S') (by rw [va_up_s, k1]; exact h7) (by rw [va_up_s]; exact ciB_t hq)
          refine g_SP X KOk.n s_D_139 (hC) d_D_paths_91 rfl ⟨Nat.le_of_ble_eq_true rfl, Nat.le_of_ble_eq_true rfl, Nat.le_of_ble_eq_true rfl, Nat.le_of_ble_eq_true rfl⟩ ?_
          refine g_iinc X d_D_paths_94 rfl (nI_1 _) (by decide) ?_
          refine g_goto X 73 d_D_paths_97 (by decide) ?_
          exact g_sb (ih (o + 1) S' (by omega) k1 k2 hx ht) ⟨rfl, rfl, rfl, rfl, rfl, trivial⟩
        | false =>
          have hC := c_D_ci_x htr (δ := δ) (ad := ad) (M := va_up M 6 S') (by rw [va_up_s, k1]; exact h7) (by rw [va_up_s]; exact ciB_f hq)
          exact g_ST X KOk.n s_D_139 (hC) d_D_paths_91 rfl ⟨Nat.le_of_ble_eq_true rfl, Nat.le_of_ble_eq_true rfl, Nat.le_of_ble_eq_true rfl, Nat.le_of_ble_eq_true rfl⟩ (ht 3 (by simp [hq]) S')
      · rw [va_up_s, h1, h2] at hS
        exact ht 4 (by simp only [paL, hS]) S'
set_option maxHeartbeats 4000000 in
set_option maxRecDepth 100000 in
theorem c_D_paths {l : Launch} (htr : l.stackTraces = false) {δ : EX} {ad : Nat → Nat} {M : DS} (hinj : Inj ad) {to a : Nat} (hto : to < 6) (ha : a < 6) (hM : ∀ k, k < 6 → (M k).1 ≤ 8 ∧ (M k).2.1 ≤ 8) (hsq : (M a).1 = (M a).2.1) (hle : leL (M a)) : CT l y_D_paths cw_D_paths (RM 5) δ (Ar ad) (dl δ ad M) [.ref (ad 0), .int (nI to), .int (nI a)] (PP δ ad M to (paR (M a) (mClear (M 6) (M a).1 (M a).2.1))) := by
  refine CT.ofN (lv := [(0, .ref (ad 0)), (1, .int (nI to)), (2, .int (nI a))]) (Or.inl ⟨rfl, rfl⟩) (by decide) htr rfl (Nat.le_of_ble_eq_true rfl) (fun κ hl X => ?_)
  subst hl
  have h7 := (hM a (by omega)).1
  have h8 := (hM a (by omega)).2
  have gsh : ∀ S S', gA 1 (M a) S = some S' → S'.1 = S.1 ∧ S'.2.1 = S.2.1 := fun S S' h => fo_sh (f := gAi 1 (M a)) (fun i S S' h => fo_sh (f := gAj 1 (M a) i) (fun j S S' h => by
    unfold gAj at h
    split at h
    · exact gaS_sh h
    · cases h; exact ⟨rfl, rfl⟩) _ _ _ _ h) _ _ _ _ h
  refine g_iload_n X 1 d_D_paths_0 rfl rfl ?_
  refine g_SP X KOk.n s_D_20 (c_D_reqReg htr hto) d_D_paths_1 rfl ⟨Nat.le_of_ble_eq_true rfl, Nat.le_of_ble_eq_true rfl, Nat.le_of_ble_eq_true rfl, Nat.le_of_ble_eq_true rfl⟩ ?_
  refine g_aload_n X 0 d_D_paths_4 rfl rfl ?_
  refine g_iload_n X 2 d_D_paths_5 rfl rfl ?_
  refine g_VP X KOk.n v_D_123 (dl_0) rfl (c_D_reqGr htr ha hM hsq) d_D_paths_6 rfl ⟨Nat.le_of_ble_eq_true rfl, Nat.le_of_ble_eq_true rfl, Nat.le_of_ble_eq_true rfl, Nat.le_of_ble_eq_true rfl⟩ ?_
  refine g_aload_n X 0 d_D_paths_9 rfl rfl ?_
  refine r_regs X d_D_paths_10 ?_
  refine g_iload_n X 2 d_D_paths_13 rfl rfl ?_
  refine r_aald X rfl (by omega) d_D_paths_14 ?_
  refine g_astore_n X 3 d_D_paths_15 rfl (by decide) ?_
  refine g_aload_n X 3 d_D_paths_16 rfl rfl ?_
  refine g_SP X KOk.n s_D_132 (c_D_le htr ha h7 h8 hle) d_D_paths_17 rfl ⟨Nat.le_of_ble_eq_true rfl, Nat.le_of_ble_eq_true rfl, Nat.le_of_ble_eq_true rfl, Nat.le_of_ble_eq_true rfl⟩ ?_
  refine g_aload_n X 0 d_D_paths_20 rfl rfl ?_
  refine g_aload_n X 3 d_D_paths_21 rfl rfl ?_
  refine r_rows X kf_D_58 d_D_paths_22 (by omega) ?_
  refine g_aload_n X 3 d_D_paths_25 rfl rfl ?_
  refine r_cols X kf_D_62 d_D_paths_26 (by omega) ?_
  refine g_VN1 X v_D_85 (dl_0) rfl (c_D_blank htr hinj) d_D_paths_29 rfl ⟨Nat.le_of_ble_eq_true rfl, Nat.le_of_ble_eq_true rfl, Nat.le_of_ble_eq_true rfl, Nat.le_of_ble_eq_true rfl⟩ ?_
  refine g_astore X d_D_paths_32 (by decide) ?_
  refine g_aload X d_D_paths_34 rfl ?_
  refine g_aload_n X 3 d_D_paths_36 rfl rfl ?_
  refine g_iconst X (v := nI 1) d_D_paths_37 (by decide) ?_
  refine g_SPO X s_D_93 (c_D_gA htr hinj ha (by decide) (by rw [va_up6 ha]; exact h7) (by rw [va_up6 ha]; exact h8)) d_D_paths_38 rfl ⟨Nat.le_of_ble_eq_true rfl, Nat.le_of_ble_eq_true rfl, Nat.le_of_ble_eq_true rfl, Nat.le_of_ble_eq_true rfl⟩ (fun S1 g1 => ?_) (fun g1 S' => ?_)
  · rw [va_up_s, va_up6 ha] at g1
    have q1 := gsh _ _ g1
    refine g_iconst X (v := nI 0) d_D_paths_41 (by decide) ?_
    refine g_istore X d_D_paths_42 (by decide) ?_
    refine g_sb (l_D_dg X htr hinj ha h7 h8 (M a).1 0 S1 (by omega) (fun S2 g2 => ?_) (fun g2 S' => ?_)) ⟨rfl, rfl, rfl, rfl, rfl, trivial⟩
    · have q2 := fo_sh (f := dgj) (fun _ _ _ h => gaS_sh h) _ _ _ _ g2
      have e : paR (M a) (mClear (M 6) (M a).1 (M a).2.1) = paL (M a).1 (M a).2.1 0 (M a).1 S2 := by
        unfold paR
        rw [g1]
        simp only [Option.bind_some, g2]
      refine g_iconst X (v := nI 0) d_D_paths_70 (by decide) ?_
      refine g_istore X d_D_paths_71 (by decide) ?_
      refine g_sb (l_D_pa X htr hinj ha h7 h8 (M a).1 0 S2 (by omega) (q2.1.trans q1.1) (q2.2.trans q1.2) (fun S3 g3 => ?_) (fun z g3 S' => ?_)) ⟨rfl, rfl, rfl, rfl, rfl, trivial⟩
      · refine g_aload_n X 0 d_D_paths_100 rfl rfl ?_
        refine g_iload_n X 1 d_D_paths_101 rfl rfl ?_
        have hK := c_D_keep htr hinj (δ := δ) (M := va_up M 6 S3) hto
        rw [va_up_s] at hK
        refine g_VN1 X v_D_101 (dl_0) rfl (hK) d_D_paths_102 rfl ⟨Nat.le_of_ble_eq_true rfl, Nat.le_of_ble_eq_true rfl, Nat.le_of_ble_eq_true rfl, Nat.le_of_ble_eq_true rfl⟩ ?_
        exact g_iret X KOk.n d_D_paths_105 (Or.inl ⟨S3, e.trans g3, rfl, rfl⟩)
      · exact Or.inr ⟨z, S', e.trans g3, rfl, rfl⟩
    · refine Or.inr ⟨4, S', ?_, rfl, rfl⟩
      unfold paR
      rw [g1]
      simp only [Option.bind_some, g2]
  · rw [va_up_s, va_up6 ha] at g1
    refine Or.inr ⟨4, S', ?_, rfl, rfl⟩
    unfold paR
    rw [g1]
    rfl
end PD
