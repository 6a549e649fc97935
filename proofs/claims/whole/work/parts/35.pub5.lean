section PE
def muI (k c : Nat) (L R : Mx) (mk : Nat → Bool) (i : Nat) (S : Mx) : Option Mx := fo (muj k L R mk i) 0 c S
theorem gpS_sh {k : Nat} {L R : Mx} {i j t : Nat} {S S' : Mx} (h : gpS k L R i j t S = some S') : S'.1 = S.1 ∧ S'.2.1 = S.2.1 := by
  unfold gpS at h
  split at h
  · cases hs : prS k (mVal L (8 * i + t)) (mVal R (8 * t + j)) with
    | none => rw [hs] at h; cases h
    | some z => rw [hs] at h; exact gaS_sh h
  · cases h; exact ⟨rfl, rfl⟩
theorem muj_sh {k : Nat} {L R : Mx} {mk : Nat → Bool} {i j : Nat} {S S' : Mx} (h : muj k L R mk i j S = some S') : S'.1 = S.1 ∧ S'.2.1 = S.2.1 := by
  unfold muj at h
  split at h
  · exact fo_sh (f := gpS k L R i j) (fun _ _ _ h => gpS_sh h) _ _ _ _ h
  · cases h; exact ⟨rfl, rfl⟩
theorem muI_sh {k c : Nat} {L R : Mx} {mk : Nat → Bool} {i : Nat} {S S' : Mx} (h : muI k c L R mk i S = some S') : S'.1 = S.1 ∧ S'.2.1 = S.2.1 := fo_sh (f := muj k L R mk i) (fun _ _ _ h => muj_sh h) _ _ _ _ h
theorem gA_sh {k : Nat} {F S S' : Mx} (h : gA k F S = some S') : S'.1 = S.1 ∧ S'.2.1 = S.2.1 := fo_sh (f := gAi k F) (fun i S S' h => fo_sh (f := gAj k F i) (fun j S S' h => by
  unfold gAj at h
  split at h
  · exact gaS_sh h
  · cases h; exact ⟨rfl, rfl⟩) _ _ _ _ h) _ _ _ _ h
theorem b2_inj {a b : Bool} (h : b2 a = b2 b) : a = b := by
  cases a <;> cases b <;> first | rfl | (exact absurd h (by decide))
/-- the mask, as the method looks at it -/
def MkOk (M : DS) (mv : Int32) (tu : Bool) (mk : Nat → Bool) : Prop := (mv = -1 ∧ ∀ p, mk p = true) ∨ ∃ m, m < 6 ∧ mv = nI m ∧ ∀ p, mk p = !(mHas (M m) p == tu)
theorem nI_m1 {m : Nat} (h : m < 6) : ¬ nI m = -1 := by
  intro q
  have : ¬ nI m < 0 := nI_pos (by omega)
  rw [q] at this
  exact this (by decide)
set_option maxHeartbeats 4000000 in
set_option maxRecDepth 100000 in
theorem l_D_mu_j {κ : KX} {δ : EX} {ad : Nat → Nat} (X : XO κ R_D b_D_multiply 14 (some .int) δ (RM 5) (Ar ad) []) (htr : (xl κ).stackTraces = false) (hinj : Inj ad) {M : DS} {P' : OC → va_W → Prop} {a b to k : Nat} {mv : Int32} {av tu : Bool} {mk : Nat → Bool} (ha : a < 6) (hb : b < 6) (hk : k < 4) (h9 : (M a).2.1 ≤ 8) (hmk : MkOk M mv tu mk) {R C : Nat} (h7 : R ≤ 8) (h8 : C ≤ 8) {i : Nat} (hi : i < 8) : ∀ n j S, j + n = C → S.1 = R → S.2.1 = C → (∀ S', fo (muj k (M a) (M b) mk i) j n S = some S' → G κ 14 δ (Kn κ (Ar ad)) (Qe κ δ (Ar ad) P') 0 0 (dl δ ad (va_up M 6 S')) [(12, .int (nI i)), (0, .ref (ad 0)), (1, .int (nI to)), (4, .int (nI k)), (5, .int mv), (7, .ref (mq ad a)), (8, .ref (mq ad b)), (9, .int (b2 av)), (10, .ref (mq ad 6)), (11, .int (b2 tu))] [] 244) → (fo (muj k (M a) (M b) mk i) j n S = none → ∀ S', P' (.inl 4) (dl δ ad (va_up M 6 S'))) → G κ 14 δ (Kn κ (Ar ad)) (Qe κ δ (Ar ad) P') 0 0 (dl δ ad (va_up M 6 S)) [(13, .int (nI j)), (12, .int (nI i)), (0, .ref (ad 0)), (1, .int (nI to)), (4, .int (nI k)), (5, .int mv), (7, .ref (mq ad a)), (8, .ref (mq ad b)), (9, .int (b2 av)), (10, .ref (mq ad 6)), (11, .int (b2 tu))] [] 188 := by
  intro n
  induction n with
  | zero =>
    intro j S hj h1 h2 hx ht
    refine g_iload X d_D_multiply_188 rfl ?_
    refine g_aload X d_D_multiply_190 rfl ?_
    refine r_cols X kf_D_62 d_D_multiply_192 (by omega) ?_
    rw [va_up_s, h2]
    refine g_icmp_ge X 244 d_D_multiply_195 (by decide) (fun hc => ?_) (fun hc => ?_)
    · exact g_sb (hx S rfl) ⟨rfl, rfl, rfl, rfl, rfl, rfl, rfl, rfl, rfl, rfl, trivial⟩
    · exact absurd (nI_le (by omega) (by omega)) hc
  | succ n ih =>
    intro j S hj h1 h2 hx ht
    refine g_iload X d_D_multiply_188 rfl ?_
    refine g_aload X d_D_multiply_190 rfl ?_
    refine r_cols X kf_D_62 d_D_multiply_192 (by omega) ?_
    rw [va_up_s, h2]
    refine g_icmp_ge X 244 d_D_multiply_195 (by decide) (fun hc => ?_) (fun hc => ?_)
    · exact absurd hc (nI_ge (by omega) (by omega))
    · clear hc
      refine g_iload X d_D_multiply_198 rfl ?_
      refine g_iconst X (v := (-1)) d_D_multiply_200 (by decide) ?_
      refine g_icmp_eq X 223 d_D_multiply_201 (by decide) (fun hc => ?_) (fun hc => ?_)
      · have hm : mk (8 * i + j) = true := by
          rcases hmk with ⟨-, q⟩ | ⟨m, q1, q2, -⟩
          · exact q _
          · exact absurd (q2.symm.trans hc) (nI_m1 q1)
        refine g_aload X d_D_multiply_223 rfl ?_
        refine g_aload X d_D_multiply_225 rfl ?_
        refine g_aload X d_D_multiply_227 rfl ?_
        refine g_iload X d_D_multiply_229 rfl ?_
        refine g_iload X d_D_multiply_231 rfl ?_
        refine g_iload X d_D_multiply_233 rfl ?_
        refine g_SPO X s_D_89 (c_D_gp htr hinj ha hb hi (by omega) hk (by rw [va_up6 ha]; exact h9)) d_D_multiply_235 rfl ⟨Nat.le_of_ble_eq_true rfl, Nat.le_of_ble_eq_true rfl, Nat.le_of_ble_eq_true rfl, Nat.le_of_ble_eq_true rfl⟩ (fun S' hS => ?_) (fun hS S' => ?_)
        · rw [va_up_s, va_up6 ha, va_up6 hb] at hS
          have e : muj k (M a) (M b) mk i j S = some S' := by simp only [muj]; rw [if_pos hm]; exact hS
          have q := muj_sh e
          rw [fo_s (f := muj k (M a) (M b) mk i) e] at hx ht
          refine g_iinc X d_D_multiply_238 rfl (nI_1 _) (by decide) ?_
          refine g_goto X 188 d_D_multiply_241 (by decide) ?_
          exact g_sb (ih (j + 1) S' (by omega) (q.1.trans h1) (q.2.trans h2) hx ht) ⟨rfl, rfl, rfl, rfl, rfl, rfl, rfl, rfl, rfl, rfl, rfl, trivial⟩
        · rw [va_up_s, va_up6 ha, va_up6 hb] at hS
          have e : muj k (M a) (M b) mk i j S = none := by simp only [muj]; rw [if_pos hm]; exact hS
          exact ht (fo_n (f := muj k (M a) (M b) mk i) e) S'
      · rcases hmk with ⟨q, -⟩ | ⟨m, q1, q2, q3⟩
        · exact absurd q hc
        subst q2
        refine g_aload_n X 0 d_D_multiply_204 rfl rfl ?_
        refine r_regs X d_D_multiply_205 ?_
        refine g_iload X d_D_multiply_208 rfl ?_
        refine r_aald X rfl (by omega) d_D_multiply_210 ?_
        refine g_iload X d_D_multiply_211 rfl ?_
        refine g_iload X d_D_multiply_213 rfl ?_
        refine g_VP X KOk.n v_D_43 (dl_m (by omega)) rfl (c_M_has htr (by omega) hi (by omega)) d_D_multiply_215 rfl ⟨Nat.le_of_ble_eq_true rfl, Nat.le_of_ble_eq_true rfl, Nat.le_of_ble_eq_true rfl, Nat.le_of_ble_eq_true rfl⟩ ?_
        rw [va_up6 q1]
        refine g_iload X d_D_multiply_218 rfl ?_
        refine g_icmp_eq X 238 d_D_multiply_220 (by decide) (fun hd => ?_) (fun hd => ?_)
        · have hm : ¬ mk (8 * i + j) = true := by
            rw [q3, b2_inj hd]
            simp
          have e : muj k (M a) (M b) mk i j S = some S := by simp only [muj]; rw [if_neg hm]
          rw [fo_s (f := muj k (M a) (M b) mk i) e] at hx ht
          refine g_iinc X d_D_multiply_238 rfl (nI_1 _) (by decide) ?_
          refine g_goto X 188 d_D_multiply_241 (by decide) ?_
          exact g_sb (ih (j + 1) S (by omega) h1 h2 hx ht) ⟨rfl, rfl, rfl, rfl, rfl, rfl, rfl, rfl, rfl, rfl, rfl, trivial⟩
        · have hm : mk (8 * i + j) = true := by
            rw [q3]
            have : ¬ mHas (M m) (8 * i + j) = tu := fun z => hd (by rw [z])
            simp [this]
          refine g_aload X d_D_multiply_223 rfl ?_
          refine g_aload X d_D_multiply_225 rfl ?_
          refine g_aload X d_D_multiply_227 rfl ?_
          refine g_iload X d_D_multiply_229 rfl ?_
          refine g_iload X d_D_multiply_231 rfl ?_
          refine g_iload X d_D_multiply_233 rfl ?_
          refine g_SPO X s_D_89 (c_D_gp htr hinj ha hb hi (by omega) hk (by rw [va_up6 ha]; exact h9)) d_D_multiply_235 rfl ⟨Nat.le_of_ble_eq_true rfl, Nat.le_of_ble_eq_true rfl, Nat.le_of_ble_eq_true rfl, Nat.le_of_ble_eq_true rfl⟩ (fun S' hS => ?_) (fun hS S' => ?_)
          · rw [va_up_s, va_up6 ha, va_up6 hb] at hS
            have e : muj k (M a) (M b) mk i j S = some S' := by simp only [muj]; rw [if_pos hm]; exact hS
            have q := muj_sh e
            rw [fo_s (f := muj k (M a) (M b) mk i) e] at hx ht
            refine g_iinc X d_D_multiply_238 rfl (nI_1 _) (by decide) ?_
            refine g_goto X 188 d_D_multiply_241 (by decide) ?_
            exact g_sb (ih (j + 1) S' (by omega) (q.1.trans h1) (q.2.trans h2) hx ht) ⟨rfl, rfl, rfl, rfl, rfl, rfl, rfl, rfl, rfl, rfl, rfl, trivial⟩
          · rw [va_up_s, va_up6 ha, va_up6 hb] at hS
            have e : muj k (M a) (M b) mk i j S = none := by simp only [muj]; rw [if_pos hm]; exact hS
            exact ht (fo_n (f := muj k (M a) (M b) mk i) e) S'
set_option maxHeartbeats 4000000 in
set_option maxRecDepth 100000 in
theorem l_D_mu_i {κ : KX} {δ : EX} {ad : Nat → Nat} (X : XO κ R_D b_D_multiply 14 (some .int) δ (RM 5) (Ar ad) []) (htr : (xl κ).stackTraces = false) (hinj : Inj ad) {M : DS} {P' : OC → va_W → Prop} {a b to k : Nat} {mv : Int32} {av tu : Bool} {mk : Nat → Bool} (ha : a < 6) (hb : b < 6) (hk : k < 4) (h9 : (M a).2.1 ≤ 8) (hmk : MkOk M mv tu mk) {R C : Nat} (h7 : R ≤ 8) (h8 : C ≤ 8) : ∀ n i S, i + n = R → S.1 = R → S.2.1 = C → (∀ S', fo (muI k C (M a) (M b) mk) i n S = some S' → G κ 14 δ (Kn κ (Ar ad)) (Qe κ δ (Ar ad) P') 0 0 (dl δ ad (va_up M 6 S')) [(0, .ref (ad 0)), (1, .int (nI to)), (4, .int (nI k)), (5, .int mv), (7, .ref (mq ad a)), (8, .ref (mq ad b)), (9, .int (b2 av)), (10, .ref (mq ad 6)), (11, .int (b2 tu))] [] 250) → (fo (muI k C (M a) (M b) mk) i n S = none → ∀ S', P' (.inl 4) (dl δ ad (va_up M 6 S'))) → G κ 14 δ (Kn κ (Ar ad)) (Qe κ δ (Ar ad) P') 0 0 (dl δ ad (va_up M 6 S)) [(12, .int (nI i)), (0, .ref (ad 0)), (1, .int (nI to)), (4, .int (nI k)), (5, .int mv), (7, .ref (mq ad a)), (8, .ref (mq ad b)), (9, .int (b2 av)), (10, .ref (mq ad 6)), (11, .int (b2 tu))] [] 175 := by
  intro n
  induction n with
  | zero =>
    intro i S hi h1 h2 hx ht
    refine g_iload X d_D_multiply_175 rfl ?_
    refine g_aload X d_D_multiply_177 rfl ?_
    refine r_rows X kf_D_58 d_D_multiply_179 (by omega) ?_
    rw [va_up_s, h1]
    refine g_icmp_ge X 250 d_D_multiply_182 (by decide) (fun hc => ?_) (fun hc => ?_)
    · exact g_sb (hx S rfl) ⟨rfl, rfl, rfl, rfl, rfl, rfl, rfl, rfl, rfl, trivial⟩
    · exact absurd (nI_le (by omega) (by omega)) hc
  | succ n ih =>
    intro i S hi h1 h2 hx ht
    refine g_iload X d_D_multiply_175 rfl ?_
    refine g_aload X d_D_multiply_177 rfl ?_
    refine r_rows X kf_D_58 d_D_multiply_179 (by omega) ?_
    rw [va_up_s, h1]
    refine g_icmp_ge X 250 d_D_multiply_182 (by decide) (fun hc => ?_) (fun hc => ?_)
    · exact absurd hc (nI_ge (by omega) (by omega))
    · clear hc
      refine g_iconst X (v := nI 0) d_D_multiply_185 (by decide) ?_
      refine g_istore X d_D_multiply_186 (by decide) ?_
      refine g_sb (l_D_mu_j X htr hinj ha hb hk h9 hmk h7 h8 (by omega) C 0 S (by omega) h1 h2 (fun S' hS => ?_) (fun hS S' => ?_)) ⟨rfl, rfl, rfl, rfl, rfl, rfl, rfl, rfl, rfl, rfl, rfl, trivial⟩
      · rw [fo_s (f := muI k C (M a) (M b) mk) hS] at hx ht
        have q := muI_sh (c := C) hS
        have k1 := q.1.trans h1
        have k2 := q.2.trans h2
        refine g_iinc X d_D_multiply_244 rfl (nI_1 _) (by decide) ?_
        refine g_goto X 175 d_D_multiply_247 (by decide) ?_
        exact g_sb (ih (i + 1) S' (by omega) k1 k2 hx ht) ⟨rfl, rfl, rfl, rfl, rfl, rfl, rfl, rfl, rfl, rfl, trivial⟩
      · exact ht (fo_n (f := muI k C (M a) (M b) mk) hS) S'
theorem and1 {h : Nat} (hh : h ≤ 3) : nI h &&& 1 = b2 (decide (h % 2 = 1)) := by
  obtain rfl | rfl | rfl | rfl : h = 0 ∨ h = 1 ∨ h = 2 ∨ h = 3 := by omega
  all_goals decide
theorem and2 {h : Nat} (hh : h ≤ 3) : nI h &&& 2 = 0 ↔ ¬ 2 ≤ h := by
  obtain rfl | rfl | rfl | rfl : h = 0 ∨ h = 1 ∨ h = 2 ∨ h = 3 := by omega
  all_goals decide
set_option maxHeartbeats 4000000 in
set_option maxRecDepth 100000 in
theorem l_D_mu_t {κ : KX} {δ : EX} {ad : Nat → Nat} (X : XO κ R_D b_D_multiply 14 (some .int) δ (RM 5) (Ar ad) []) (htr : (xl κ).stackTraces = false) (hinj : Inj ad) {M : DS} {a b to k hw : Nat} {mv : Int32} {av : Bool} {mk : Nat → Bool} (hto : to < 6) (ha : a < 6) (hb : b < 6) (hk : k < 4) (hM : ∀ k, k < 6 → (M k).1 ≤ 8 ∧ (M k).2.1 ≤ 8) (hhw : hw ≤ 3) (hmk : MkOk M mv (decide (hw % 2 = 1)) mk) : G κ 14 δ (Kn κ (Ar ad)) (Qe κ δ (Ar ad) (PS δ ad M to (((fo (muI k (M b).2.1 (M a) (M b) mk) 0 (M a).1 (mClear (M 6) (M a).1 (M b).2.1)).bind (fun S => if av = true then gA k (M to) S else some S)).map (dz k)))) 0 0 (dl δ ad M) [(0, .ref (ad 0)), (1, .int (nI to)), (4, .int (nI k)), (5, .int mv), (6, .int (nI hw)), (7, .ref (mq ad a)), (8, .ref (mq ad b)), (9, .int (b2 av))] [] 142 := by
  have h9 := (hM a (by omega)).2
  refine g_aload_n X 0 d_D_multiply_142 rfl rfl ?_
  refine g_aload X d_D_multiply_143 rfl ?_
  refine r_rows X kf_D_58 d_D_multiply_145 (by omega) ?_
  refine g_aload X d_D_multiply_148 rfl ?_
  refine r_cols X kf_D_62 d_D_multiply_150 (by omega) ?_
  refine g_VN1 X v_D_85 (dl_0) rfl (c_D_blank htr hinj) d_D_multiply_153 rfl ⟨Nat.le_of_ble_eq_true rfl, Nat.le_of_ble_eq_true rfl, Nat.le_of_ble_eq_true rfl, Nat.le_of_ble_eq_true rfl⟩ ?_
  refine g_astore X d_D_multiply_156 (by decide) ?_
  refine g_iload X d_D_multiply_158 rfl ?_
  refine g_iconst X (v := 1) d_D_multiply_160 (by decide) ?_
  refine g_iand X d_D_multiply_161 ?_
  refine g_ei (and1 hhw) ?_
  refine g_if_eq X 169 d_D_multiply_162 (by decide) (fun hc => ?_) (fun hc => ?_)
  · have e := b2_0.mp hc
    rw [e] at hmk
    refine g_iconst X (v := b2 false) d_D_multiply_169 (by decide) ?_
    refine g_istore X d_D_multiply_170 (by decide) ?_
    refine g_iconst X (v := nI 0) d_D_multiply_172 (by decide) ?_
    refine g_istore X d_D_multiply_173 (by decide) ?_
    refine g_sb (l_D_mu_i X htr hinj ha hb hk h9 (tu := false) (av := av) hmk (hM a (by omega)).1 (hM b (by omega)).2 (M a).1 0 (mClear (M 6) (M a).1 (M b).2.1) (by omega) rfl rfl (fun S1 g1 => ?_) (fun g1 S' => ?_)) ⟨rfl, rfl, rfl, rfl, rfl, rfl, rfl, rfl, rfl, rfl, trivial⟩
    · have q1 := fo_sh (f := muI k (M b).2.1 (M a) (M b) mk) (fun _ _ _ h => muI_sh h) _ _ _ _ g1
      refine g_iload X d_D_multiply_250 rfl ?_
      refine g_if_eq X 268 d_D_multiply_252 (by decide) (fun hc => ?_) (fun hc => ?_)
      · have ha0 : av = false := b2_0.mp hc
        have k1 : S1.1 ≤ 8 := by rw [q1.1]; exact (hM a (by omega)).1
        have k2 : S1.2.1 ≤ 8 := by rw [q1.2]; exact (hM b (by omega)).2
        refine g_aload X d_D_multiply_268 rfl ?_
        refine g_iload X d_D_multiply_270 rfl ?_
        have hZ := c_D_dz htr hinj (δ := δ) (M := (va_up M 6 S1)) hk (by rw [va_up_s]; exact k1) (by rw [va_up_s]; exact k2)
        rw [va_up_s, bx_uu] at hZ
        refine g_SN1 X s_D_97 (hZ) d_D_multiply_272 rfl ⟨Nat.le_of_ble_eq_true rfl, Nat.le_of_ble_eq_true rfl, Nat.le_of_ble_eq_true rfl, Nat.le_of_ble_eq_true rfl⟩ ?_
        refine g_aload_n X 0 d_D_multiply_275 rfl rfl ?_
        refine g_iload_n X 1 d_D_multiply_276 rfl rfl ?_
        have hK := c_D_keep htr hinj (δ := δ) (M := va_up M 6 (dz k S1)) hto
        rw [va_up_s] at hK
        refine g_VN1 X v_D_101 (dl_0) rfl (hK) d_D_multiply_277 rfl ⟨Nat.le_of_ble_eq_true rfl, Nat.le_of_ble_eq_true rfl, Nat.le_of_ble_eq_true rfl, Nat.le_of_ble_eq_true rfl⟩ ?_
        exact g_iret X KOk.n d_D_multiply_280 (Or.inl ⟨dz k S1, by rw [g1]; simp [ha0], rfl, rfl⟩)
      · have ha1 : av = true := b2_t hc
        refine g_aload X d_D_multiply_255 rfl ?_
        refine g_aload_n X 0 d_D_multiply_257 rfl rfl ?_
        refine r_regs X d_D_multiply_258 ?_
        refine g_iload_n X 1 d_D_multiply_261 rfl rfl ?_
        refine r_aald X rfl (by omega) d_D_multiply_262 ?_
        refine g_iload X d_D_multiply_263 rfl ?_
        refine g_SPO X s_D_93 (c_D_gA htr hinj hto hk (by rw [va_up6 hto]; exact (hM to (by omega)).1) (by rw [va_up6 hto]; exact (hM to (by omega)).2)) d_D_multiply_265 rfl ⟨Nat.le_of_ble_eq_true rfl, Nat.le_of_ble_eq_true rfl, Nat.le_of_ble_eq_true rfl, Nat.le_of_ble_eq_true rfl⟩ (fun S2 g2 => ?_) (fun g2 S' => ?_)
        · rw [va_up_s, va_up6 hto] at g2
          have q2 := gA_sh g2
          have k1 : S2.1 ≤ 8 := by rw [q2.1, q1.1]; exact (hM a (by omega)).1
          have k2 : S2.2.1 ≤ 8 := by rw [q2.2, q1.2]; exact (hM b (by omega)).2
          refine g_aload X d_D_multiply_268 rfl ?_
          refine g_iload X d_D_multiply_270 rfl ?_
          have hZ := c_D_dz htr hinj (δ := δ) (M := (va_up M 6 S2)) hk (by rw [va_up_s]; exact k1) (by rw [va_up_s]; exact k2)
          rw [va_up_s, bx_uu] at hZ
          refine g_SN1 X s_D_97 (hZ) d_D_multiply_272 rfl ⟨Nat.le_of_ble_eq_true rfl, Nat.le_of_ble_eq_true rfl, Nat.le_of_ble_eq_true rfl, Nat.le_of_ble_eq_true rfl⟩ ?_
          refine g_aload_n X 0 d_D_multiply_275 rfl rfl ?_
          refine g_iload_n X 1 d_D_multiply_276 rfl rfl ?_
          have hK := c_D_keep htr hinj (δ := δ) (M := va_up M 6 (dz k S2)) hto
          rw [va_up_s] at hK
          refine g_VN1 X v_D_101 (dl_0) rfl (hK) d_D_multiply_277 rfl ⟨Nat.le_of_ble_eq_true rfl, Nat.le_of_ble_eq_true rfl, Nat.le_of_ble_eq_true rfl, Nat.le_of_ble_eq_true rfl⟩ ?_
          exact g_iret X KOk.n d_D_multiply_280 (Or.inl ⟨dz k S2, by rw [g1]; simp [ha1, g2], rfl, rfl⟩)
        · rw [va_up_s, va_up6 hto] at g2
          exact Or.inr ⟨by rw [g1]; simp [ha1, g2], rfl, S', rfl⟩
    · exact Or.inr ⟨by rw [g1]; rfl, rfl, S', rfl⟩
  · have e := b2_t hc
    rw [e] at hmk
    refine g_iconst X (v := b2 true) d_D_multiply_165 (by decide) ?_
    refine g_goto X 170 d_D_multiply_166 (by decide) ?_
    refine g_istore X d_D_multiply_170 (by decide) ?_
    refine g_iconst X (v := nI 0) d_D_multiply_172 (by decide) ?_
    refine g_istore X d_D_multiply_173 (by decide) ?_
    refine g_sb (l_D_mu_i X htr hinj ha hb hk h9 (tu := true) (av := av) hmk (hM a (by omega)).1 (hM b (by omega)).2 (M a).1 0 (mClear (M 6) (M a).1 (M b).2.1) (by omega) rfl rfl (fun S1 g1 => ?_) (fun g1 S' => ?_)) ⟨rfl, rfl, rfl, rfl, rfl, rfl, rfl, rfl, rfl, rfl, trivial⟩
    · have q1 := fo_sh (f := muI k (M b).2.1 (M a) (M b) mk) (fun _ _ _ h => muI_sh h) _ _ _ _ g1
      refine g_iload X d_D_multiply_250 rfl ?_
      refine g_if_eq X 268 d_D_multiply_252 (by decide) (fun hc => ?_) (fun hc => ?_)
      · have ha0 : av = false := b2_0.mp hc
        have k1 : S1.1 ≤ 8 := by rw [q1.1]; exact (hM a (by omega)).1
        have k2 : S1.2.1 ≤ 8 := by rw [q1.2]; exact (hM b (by omega)).2
        refine g_aload X d_D_multiply_268 rfl ?_
        refine g_iload X d_D_multiply_270 rfl ?_
        have hZ := c_D_dz htr hinj (δ := δ) (M := (va_up M 6 S1)) hk (by rw [va_up_s]; exact k1) (by rw [va_up_s]; exact k2)
        rw [va_up_s, bx_uu] at hZ
        refine g_SN1 X s_D_97 (hZ) d_D_multiply_272 rfl ⟨Nat.le_of_ble_eq_true rfl, Nat.le_of_ble_eq_true rfl, Nat.le_of_ble_eq_true rfl, Nat.le_of_ble_eq_true rfl⟩ ?_
        refine g_aload_n X 0 d_D_multiply_275 rfl rfl ?_
        refine g_iload_n X 1 d_D_multiply_276 rfl rfl ?_
        have hK := c_D_keep htr hinj (δ := δ) (M := va_up M 6 (dz k S1)) hto
        rw [va_up_s] at hK
        refine g_VN1 X v_D_101 (dl_0) rfl (hK) d_D_multiply_277 rfl ⟨Nat.le_of_ble_eq_true rfl, Nat.le_of_ble_eq_true rfl, Nat.le_of_ble_eq_true rfl, Nat.le_of_ble_eq_true rfl⟩ ?_
        exact g_iret X KOk.n d_D_multiply_280 (Or.inl ⟨dz k S1, by rw [g1]; simp [ha0], rfl, rfl⟩)
      · have ha1 : av = true := b2_t hc
        refine g_aload X d_D_multiply_255 rfl ?_
        refine g_aload_n X 0 d_D_multiply_257 rfl rfl ?_
        refine r_regs X d_D_multiply_258 ?_
        refine g_iload_n X 1 d_D_multiply_261 rfl rfl ?_
        refine r_aald X rfl (by omega) d_D_multiply_262 ?_
        refine g_iload X d_D_multiply_263 rfl ?_
        refine g_SPO X s_D_93 (c_D_gA htr hinj hto hk (by rw [va_up6 hto]; exact (hM to (by omega)).1) (by rw [va_up6 hto]; exact (hM to (by omega)).2)) d_D_multiply_265 rfl ⟨Nat.le_of_ble_eq_true rfl, Nat.le_of_ble_eq_true rfl, Nat.le_of_ble_eq_true rfl, Nat.le_of_ble_eq_true rfl⟩ (fun S2 g2 => ?_) (fun g2 S' => ?_)
        · rw [va_up_s, va_up6 hto] at g2
          have q2 := gA_sh g2
          have k1 : S2.1 ≤ 8 := by rw [q2.1, q1.1]; exact (hM a (by omega)).1
          have k2 : S2.2.1 ≤ 8 := by rw [q2.2, q1.2]; exact (hM b (by omega)).2
          refine g_aload X d_D_multiply_268 rfl ?_
          refine g_iload X d_D_multiply_270 rfl ?_
          have hZ := c_D_dz htr hinj (δ := δ) (M := (va_up M 6 S2)) hk (by rw [va_up_s]; exact k1) (by rw [va_up_s]; exact k2)
          rw [va_up_s, bx_uu] at hZ
          refine g_SN1 X s_D_97 (hZ) d_D_multiply_272 rfl ⟨Nat.le_of_ble_eq_true rfl, Nat.le_of_ble_eq_true rfl, Nat.le_of_ble_eq_true rfl, Nat.le_of_ble_eq_true rfl⟩ ?_
          refine g_aload_n X 0 d_D_multiply_275 rfl rfl ?_
          refine g_iload_n X 1 d_D_multiply_276 rfl rfl ?_
          have hK := c_D_keep htr hinj (δ := δ) (M := va_up M 6 (dz k S2)) hto
          rw [va_up_s] at hK
          refine g_VN1 X v_D_101 (dl_0) rfl (hK) d_D_multiply_277 rfl ⟨Nat.le_of_ble_eq_true rfl, Nat.le_of_ble_eq_true rfl, Nat.le_of_ble_eq_true rfl, Nat.le_of_ble_eq_true rfl⟩ ?_
          exact g_iret X KOk.n d_D_multiply_280 (Or.inl ⟨dz k S2, by rw [g1]; simp [ha1, g2], rfl, rfl⟩)
        · rw [va_up_s, va_up6 hto] at g2
          exact Or.inr ⟨by rw [g1]; simp [ha1, g2], rfl, S', rfl⟩
    · exact Or.inr ⟨by rw [g1]; rfl, rfl, S', rfl⟩
set_option maxHeartbeats 4000000 in
set_option maxRecDepth 100000 in
theorem c_D_multiply {l : Launch} (htr : l.stackTraces = false) {δ : EX} {ad : Nat → Nat} {M : DS} (hinj : Inj ad) {to a b k hw : Nat} {mv : Int32} {mk : Nat → Bool} (hto : to < 6) (ha : a < 6) (hb : b < 6) (hk : k < 4) (hM : ∀ k, k < 6 → (M k).1 ≤ 8 ∧ (M k).2.1 ≤ 8) (hhw : hw ≤ 3) (hf1 : (M a).2.1 = (M b).1) (hf2 : mv = -1 ∨ ∃ m, m < 6 ∧ mv = nI m ∧ ((M m).1 = (M a).1 ∧ (M m).2.1 = (M b).2.1)) (hf3 : ¬ 2 ≤ hw ∨ ((M to).1 = (M a).1 ∧ (M to).2.1 = (M b).2.1)) (hmk : MkOk M mv (decide (hw % 2 = 1)) mk) : CT l y_D_multiply cw_D_multiply (RM 5) δ (Ar ad) (dl δ ad M) [.ref (ad 0), .int (nI to), .int (nI a), .int (nI b), .int (nI k), .int mv, .int (nI hw)] (PS δ ad M to (((fo (muI k (M b).2.1 (M a) (M b) mk) 0 (M a).1 (mClear (M 6) (M a).1 (M b).2.1)).bind (fun S => if decide (2 ≤ hw) = true then gA k (M to) S else some S)).map (dz k))) := by
  refine CT.ofN (lv := [(0, .ref (ad 0)), (1, .int (nI to)), (2, .int (nI a)), (3, .int (nI b)), (4, .int (nI k)), (5, .int mv), (6, .int (nI hw))]) (Or.inl ⟨rfl, rfl⟩) (by decide) htr rfl (Nat.le_of_ble_eq_true rfl) (fun κ hl X => ?_)
  subst hl
  have hmv : mv = -1 ∨ ∃ r, r < 6 ∧ mv = nI r := by
    rcases hf2 with q | ⟨m, q1, q2, -⟩
    · exact Or.inl q
    · exact Or.inr ⟨m, q1, q2⟩
  refine g_iload_n X 1 d_D_multiply_0 rfl rfl ?_
  refine g_iload_n X 2 d_D_multiply_1 rfl rfl ?_
  refine g_iload_n X 3 d_D_multiply_2 rfl rfl ?_
  refine g_iload X d_D_multiply_3 rfl ?_
  refine g_SP X KOk.n s_D_69 (c_D_reqOps htr hto ha hb hk) d_D_multiply_5 rfl ⟨Nat.le_of_ble_eq_true rfl, Nat.le_of_ble_eq_true rfl, Nat.le_of_ble_eq_true rfl, Nat.le_of_ble_eq_true rfl⟩ ?_
  refine g_iload X d_D_multiply_8 rfl ?_
  refine g_SP X KOk.n s_D_73 (c_D_reqMask htr hmv) d_D_multiply_10 rfl ⟨Nat.le_of_ble_eq_true rfl, Nat.le_of_ble_eq_true rfl, Nat.le_of_ble_eq_true rfl, Nat.le_of_ble_eq_true rfl⟩ ?_
  refine g_iload X d_D_multiply_13 rfl ?_
  refine g_iconst X (v := nI 3) d_D_multiply_15 (by decide) ?_
  refine g_SP X KOk.n s_D_76 (c_D_reqHow htr hhw (by decide)) d_D_multiply_16 rfl ⟨Nat.le_of_ble_eq_true rfl, Nat.le_of_ble_eq_true rfl, Nat.le_of_ble_eq_true rfl, Nat.le_of_ble_eq_true rfl⟩ ?_
  refine g_aload_n X 0 d_D_multiply_19 rfl rfl ?_
  refine r_regs X d_D_multiply_20 ?_
  refine g_iload_n X 2 d_D_multiply_23 rfl rfl ?_
  refine r_aald X rfl (by omega) d_D_multiply_24 ?_
  refine g_astore X d_D_multiply_25 (by decide) ?_
  refine g_aload_n X 0 d_D_multiply_27 rfl rfl ?_
  refine r_regs X d_D_multiply_28 ?_
  refine g_iload_n X 3 d_D_multiply_31 rfl rfl ?_
  refine r_aald X rfl (by omega) d_D_multiply_32 ?_
  refine g_astore X d_D_multiply_33 (by decide) ?_
  refine g_aload X d_D_multiply_35 rfl ?_
  refine r_cols X kf_D_62 d_D_multiply_37 (by omega) ?_
  refine g_aload X d_D_multiply_40 rfl ?_
  refine r_rows X kf_D_58 d_D_multiply_42 (by omega) ?_
  refine g_icmp_ne X 52 d_D_multiply_45 (by decide) (fun hc => ?_) (fun hc => ?_)
  · exact absurd (by rw [hf1]) hc
  clear hc
  refine g_iconst X (v := b2 true) d_D_multiply_48 (by decide) ?_
  refine g_goto X 53 d_D_multiply_49 (by decide) ?_
  refine g_SP X KOk.n s_D_79 (c_D_reqFit htr (b := true) rfl) d_D_multiply_53 rfl ⟨Nat.le_of_ble_eq_true rfl, Nat.le_of_ble_eq_true rfl, Nat.le_of_ble_eq_true rfl, Nat.le_of_ble_eq_true rfl⟩ ?_
  refine (fun (c93 : G κ 14 δ (Kn κ (Ar ad)) (Qe κ δ (Ar ad) (PS δ ad M to (((fo (muI k (M b).2.1 (M a) (M b) mk) 0 (M a).1 (mClear (M 6) (M a).1 (M b).2.1)).bind (fun S => if decide (2 ≤ hw) = true then gA k (M to) S else some S)).map (dz k)))) 0 0 (dl δ ad M) [(0, .ref (ad 0)), (1, .int (nI to)), (4, .int (nI k)), (5, .int mv), (6, .int (nI hw)), (7, .ref (mq ad a)), (8, .ref (mq ad b))] [] 93) => ?_) ?_
  · refine g_iload X d_D_multiply_56 rfl ?_
    refine g_iconst X (v := (-1)) d_D_multiply_58 (by decide) ?_
    refine g_icmp_eq X 85 d_D_multiply_59 (by decide) (fun hd => ?_) (fun hd => ?_)
    · refine g_iconst X (v := b2 true) d_D_multiply_85 (by decide) ?_
      refine g_goto X 90 d_D_multiply_86 (by decide) ?_
      refine g_SP X KOk.n s_D_79 (c_D_reqFit htr (b := true) rfl) d_D_multiply_90 rfl ⟨Nat.le_of_ble_eq_true rfl, Nat.le_of_ble_eq_true rfl, Nat.le_of_ble_eq_true rfl, Nat.le_of_ble_eq_true rfl⟩ ?_
      exact g_sb c93 ⟨rfl, rfl, rfl, rfl, rfl, rfl, rfl, trivial⟩
    · rcases hf2 with q | ⟨m, q1, q2, q3⟩
      · exact absurd q hd
      subst q2
      refine g_aload_n X 0 d_D_multiply_62 rfl rfl ?_
      refine r_regs X d_D_multiply_63 ?_
      refine g_iload X d_D_multiply_66 rfl ?_
      refine r_aald X rfl (by omega) d_D_multiply_68 ?_
      refine g_aload X d_D_multiply_69 rfl ?_
      refine r_rows X kf_D_58 d_D_multiply_71 (by omega) ?_
      refine g_aload X d_D_multiply_74 rfl ?_
      refine r_cols X kf_D_62 d_D_multiply_76 (by omega) ?_
      refine g_VP X KOk.n v_D_82 (dl_m (by omega)) rfl (c_M_isShaped htr (by omega) (hM m (by omega)).1 (hM m (by omega)).2 (hM a (by omega)).1 (hM b (by omega)).2) d_D_multiply_79 rfl ⟨Nat.le_of_ble_eq_true rfl, Nat.le_of_ble_eq_true rfl, Nat.le_of_ble_eq_true rfl, Nat.le_of_ble_eq_true rfl⟩ ?_
      refine g_if_eq X 89 d_D_multiply_82 (by decide) (fun he => ?_) (fun he => ?_)
      · exact absurd (b2_0.mp he) (by rw [decide_eq_true q3]; decide)
      · refine g_iconst X (v := b2 true) d_D_multiply_85 (by decide) ?_
        refine g_goto X 90 d_D_multiply_86 (by decide) ?_
        refine g_SP X KOk.n s_D_79 (c_D_reqFit htr (b := true) rfl) d_D_multiply_90 rfl ⟨Nat.le_of_ble_eq_true rfl, Nat.le_of_ble_eq_true rfl, Nat.le_of_ble_eq_true rfl, Nat.le_of_ble_eq_true rfl⟩ ?_
        exact g_sb c93 ⟨rfl, rfl, rfl, rfl, rfl, rfl, rfl, trivial⟩
  refine g_iload X d_D_multiply_93 rfl ?_
  refine g_iconst X (v := 2) d_D_multiply_95 (by decide) ?_
  refine g_iand X d_D_multiply_96 ?_
  refine g_if_eq X 104 d_D_multiply_97 (by decide) (fun hc => ?_) (fun hc => ?_)
  · have e := (and2 hhw).mp hc
    have hT := l_D_mu_t X htr hinj (av := decide (2 ≤ hw)) hto ha hb hk hM hhw hmk
    rw [decide_eq_false e] at hT ⊢
    refine g_iconst X (v := b2 false) d_D_multiply_104 (by decide) ?_
    refine g_istore X d_D_multiply_105 (by decide) ?_
    refine g_iload X d_D_multiply_107 rfl ?_
    refine g_if_eq X 134 d_D_multiply_109 (by decide) (fun hd => ?_) (fun hd => ?_)
    · refine g_iconst X (v := b2 true) d_D_multiply_134 (by decide) ?_
      refine g_goto X 139 d_D_multiply_135 (by decide) ?_
      refine g_SP X KOk.n s_D_79 (c_D_reqFit htr (b := true) rfl) d_D_multiply_139 rfl ⟨Nat.le_of_ble_eq_true rfl, Nat.le_of_ble_eq_true rfl, Nat.le_of_ble_eq_true rfl, Nat.le_of_ble_eq_true rfl⟩ ?_
      exact g_sb hT ⟨rfl, rfl, rfl, rfl, rfl, rfl, rfl, rfl, trivial⟩
    · exact absurd (by decide) hd
  · have e : 2 ≤ hw := Classical.not_not.mp (fun q => hc ((and2 hhw).mpr q))
    have hT := l_D_mu_t X htr hinj (av := decide (2 ≤ hw)) hto ha hb hk hM hhw hmk
    rw [decide_eq_true e] at hT ⊢
    have g : (M to).1 = (M a).1 ∧ (M to).2.1 = (M b).2.1 := hf3.resolve_left (fun q => q e)
    refine g_iconst X (v := b2 true) d_D_multiply_100 (by decide) ?_
    refine g_goto X 105 d_D_multiply_101 (by decide) ?_
    refine g_istore X d_D_multiply_105 (by decide) ?_
    refine g_iload X d_D_multiply_107 rfl ?_
    refine g_if_eq X 134 d_D_multiply_109 (by decide) (fun hd => ?_) (fun hd => ?_)
    · exact absurd hd (by decide)
    · refine g_aload_n X 0 d_D_multiply_112 rfl rfl ?_
      refine r_regs X d_D_multiply_113 ?_
      refine g_iload_n X 1 d_D_multiply_116 rfl rfl ?_
      refine r_aald X rfl (by omega) d_D_multiply_117 ?_
      refine g_aload X d_D_multiply_118 rfl ?_
      refine r_rows X kf_D_58 d_D_multiply_120 (by omega) ?_
      refine g_aload X d_D_multiply_123 rfl ?_
      refine r_cols X kf_D_62 d_D_multiply_125 (by omega) ?_
      refine g_VP X KOk.n v_D_82 (dl_m (by omega)) rfl (c_M_isShaped htr (by omega) (hM to (by omega)).1 (hM to (by omega)).2 (hM a (by omega)).1 (hM b (by omega)).2) d_D_multiply_128 rfl ⟨Nat.le_of_ble_eq_true rfl, Nat.le_of_ble_eq_true rfl, Nat.le_of_ble_eq_true rfl, Nat.le_of_ble_eq_true rfl⟩ ?_
      refine g_if_eq X 138 d_D_multiply_131 (by decide) (fun he => ?_) (fun he => ?_)
      · exact absurd (b2_0.mp he) (by rw [decide_eq_true g]; decide)
      · refine g_iconst X (v := b2 true) d_D_multiply_134 (by decide) ?_
        refine g_goto X 139 d_D_multiply_135 (by decide) ?_
        refine g_SP X KOk.n s_D_79 (c_D_reqFit htr (b := true) rfl) d_D_multiply_139 rfl ⟨Nat.le_of_ble_eq_true rfl, Nat.le_of_ble_eq_true rfl, Nat.le_of_ble_eq_true rfl, Nat.le_of_ble_eq_true rfl⟩ ?_
        exact g_sb hT ⟨rfl, rfl, rfl, rfl, rfl, rfl, rfl, rfl, trivial⟩
set_option maxHeartbeats 4000000 in
set_option maxRecDepth 100000 in
theorem c_D_multiply_x1 {l : Launch} (htr : l.stackTraces = false) {δ : EX} {ad : Nat → Nat} {M : DS} {x1 x2 x3 x4 x5 x6 : Int32} (h : bR x1 ∨ bR x2 ∨ bR x3 ∨ bH 3 x4 ∨ (¬ x5 = -1 ∧ bR x5) ∨ bH 3 x6) : CTP l y_D_multiply cw_D_multiply (RM 5) δ (dl δ ad M) [.ref (ad 0), .int x1, .int x2, .int x3, .int x4, .int x5, .int x6] (.inl 1) := by
  refine CT.ofP (lv := [(0, .ref (ad 0)), (1, .int x1), (2, .int x2), (3, .int x3), (4, .int x4), (5, .int x5), (6, .int x6)]) (Or.inl ⟨rfl, rfl⟩) (by decide) htr rfl (Nat.le_of_ble_eq_true rfl) (fun κ hl X => ?_)
  subst hl
  refine g_iload_n X 1 d_D_multiply_0 rfl rfl ?_
  refine g_iload_n X 2 d_D_multiply_1 rfl rfl ?_
  refine g_iload_n X 3 d_D_multiply_2 rfl rfl ?_
  refine g_iload X d_D_multiply_3 rfl ?_
  by_cases hq : bR x1 ∨ bR x2 ∨ bR x3 ∨ bH 3 x4
  · exact g_ST X KOk.p s_D_69 (c_D_reqOps_x htr hq) d_D_multiply_5 rfl ⟨Nat.le_of_ble_eq_true rfl, Nat.le_of_ble_eq_true rfl, Nat.le_of_ble_eq_true rfl, Nat.le_of_ble_eq_true rfl⟩ ⟨rfl, rfl⟩
  rcases bR_or x1 with q | ⟨r1, h1, rfl⟩
  · exact absurd (Or.inl q) hq
  rcases bR_or x2 with q | ⟨r2, h2, rfl⟩
  · exact absurd (Or.inr (Or.inl q)) hq
  rcases bR_or x3 with q | ⟨r3, h3, rfl⟩
  · exact absurd (Or.inr (Or.inr (Or.inl q))) hq
  rcases bH_or (n := 3) (by decide) x4 with q | ⟨k, hk, rfl⟩
  · exact absurd (Or.inr (Or.inr (Or.inr q))) hq
  refine g_SP X KOk.p s_D_69 (c_D_reqOps htr h1 h2 h3 (by omega)) d_D_multiply_5 rfl ⟨Nat.le_of_ble_eq_true rfl, Nat.le_of_ble_eq_true rfl, Nat.le_of_ble_eq_true rfl, Nat.le_of_ble_eq_true rfl⟩ ?_
  refine g_iload X d_D_multiply_8 rfl ?_
  by_cases hm : ¬ x5 = -1 ∧ bR x5
  · exact g_ST X KOk.p s_D_73 (c_D_reqMask_x htr hm.1 hm.2) d_D_multiply_10 rfl ⟨Nat.le_of_ble_eq_true rfl, Nat.le_of_ble_eq_true rfl, Nat.le_of_ble_eq_true rfl, Nat.le_of_ble_eq_true rfl⟩ ⟨rfl, rfl⟩
  have hmv : x5 = -1 ∨ ∃ r, r < 6 ∧ x5 = nI r := by
    by_cases e : x5 = -1
    · exact Or.inl e
    · exact Or.inr ((bR_or x5).resolve_left (fun q => hm ⟨e, q⟩))
  refine g_SP X KOk.p s_D_73 (c_D_reqMask htr hmv) d_D_multiply_10 rfl ⟨Nat.le_of_ble_eq_true rfl, Nat.le_of_ble_eq_true rfl, Nat.le_of_ble_eq_true rfl, Nat.le_of_ble_eq_true rfl⟩ ?_
  refine g_iload X d_D_multiply_13 rfl ?_
  refine g_iconst X (v := nI 3) d_D_multiply_15 (by decide) ?_
  rcases h with h | h | h | h | h | h
  · exact absurd (Or.inl h) hq
  · exact absurd (Or.inr (Or.inl h)) hq
  · exact absurd (Or.inr (Or.inr (Or.inl h))) hq
  · exact absurd (Or.inr (Or.inr (Or.inr h))) hq
  · exact absurd h hm
  · exact g_ST X KOk.p s_D_76 (c_D_reqHow_x htr h) d_D_multiply_16 rfl ⟨Nat.le_of_ble_eq_true rfl, Nat.le_of_ble_eq_true rfl, Nat.le_of_ble_eq_true rfl, Nat.le_of_ble_eq_true rfl⟩ ⟨rfl, rfl⟩
set_option maxHeartbeats 4000000 in
set_option maxRecDepth 100000 in
theorem c_D_multiply_x2 {l : Launch} (htr : l.stackTraces = false) {δ : EX} {ad : Nat → Nat} {M : DS} {to a b k hw : Nat} {mv : Int32} (hto : to < 6) (ha : a < 6) (hb : b < 6) (hk : k < 4) (hM : ∀ k, k < 6 → (M k).1 ≤ 8 ∧ (M k).2.1 ≤ 8) (hhw : hw ≤ 3) (hmv : mv = -1 ∨ ∃ r, r < 6 ∧ mv = nI r) (hf1 : ¬ (M a).2.1 = (M b).1) : CTP l y_D_multiply cw_D_multiply (RM 5) δ (dl δ ad M) [.ref (ad 0), .int (nI to), .int (nI a), .int (nI b), .int (nI k), .int mv, .int (nI hw)] (.inl 2) := by
  refine CT.ofP (lv := [(0, .ref (ad 0)), (1, .int (nI to)), (2, .int (nI a)), (3, .int (nI b)), (4, .int (nI k)), (5, .int mv), (6, .int (nI hw))]) (Or.inl ⟨rfl, rfl⟩) (by decide) htr rfl (Nat.le_of_ble_eq_true rfl) (fun κ hl X => ?_)
  subst hl
  refine g_iload_n X 1 d_D_multiply_0 rfl rfl ?_
  refine g_iload_n X 2 d_D_multiply_1 rfl rfl ?_
  refine g_iload_n X 3 d_D_multiply_2 rfl rfl ?_
  refine g_iload X d_D_multiply_3 rfl ?_
  refine g_SP X KOk.p s_D_69 (c_D_reqOps htr hto ha hb hk) d_D_multiply_5 rfl ⟨Nat.le_of_ble_eq_true rfl, Nat.le_of_ble_eq_true rfl, Nat.le_of_ble_eq_true rfl, Nat.le_of_ble_eq_true rfl⟩ ?_
  refine g_iload X d_D_multiply_8 rfl ?_
  refine g_SP X KOk.p s_D_73 (c_D_reqMask htr hmv) d_D_multiply_10 rfl ⟨Nat.le_of_ble_eq_true rfl, Nat.le_of_ble_eq_true rfl, Nat.le_of_ble_eq_true rfl, Nat.le_of_ble_eq_true rfl⟩ ?_
  refine g_iload X d_D_multiply_13 rfl ?_
  refine g_iconst X (v := nI 3) d_D_multiply_15 (by decide) ?_
  refine g_SP X KOk.p s_D_76 (c_D_reqHow htr hhw (by decide)) d_D_multiply_16 rfl ⟨Nat.le_of_ble_eq_true rfl, Nat.le_of_ble_eq_true rfl, Nat.le_of_ble_eq_true rfl, Nat.le_of_ble_eq_true rfl⟩ ?_
  refine g_aload_n X 0 d_D_multiply_19 rfl rfl ?_
  refine r_regs X d_D_multiply_20 ?_
  refine g_iload_n X 2 d_D_multiply_23 rfl rfl ?_
  refine r_aald X rfl (by omega) d_D_multiply_24 ?_
  refine g_astore X d_D_multiply_25 (by decide) ?_
  refine g_aload_n X 0 d_D_multiply_27 rfl rfl ?_
  refine r_regs X d_D_multiply_28 ?_
  refine g_iload_n X 3 d_D_multiply_31 rfl rfl ?_
  refine r_aald X rfl (by omega) d_D_multiply_32 ?_
  refine g_astore X d_D_multiply_33 (by decide) ?_
  refine g_aload X d_D_multiply_35 rfl ?_
  refine r_cols X kf_D_62 d_D_multiply_37 (by omega) ?_
  refine g_aload X d_D_multiply_40 rfl ?_
  refine r_rows X kf_D_58 d_D_multiply_42 (by omega) ?_
  refine g_icmp_ne X 52 d_D_multiply_45 (by decide) (fun hc => ?_) (fun hc => ?_)
  · refine g_iconst X (v := b2 false) d_D_multiply_52 (by decide) ?_
    exact g_ST X KOk.p s_D_79 (c_D_reqFit_x htr (b := false) rfl) d_D_multiply_53 rfl ⟨Nat.le_of_ble_eq_true rfl, Nat.le_of_ble_eq_true rfl, Nat.le_of_ble_eq_true rfl, Nat.le_of_ble_eq_true rfl⟩ ⟨rfl, rfl⟩
  · exact absurd ((nI_eq (by have := hM a (by omega); omega) (by have := hM b (by omega); omega)).mp hc) hf1
set_option maxHeartbeats 4000000 in
set_option maxRecDepth 100000 in
theorem c_D_multiply_x3 {l : Launch} (htr : l.stackTraces = false) {δ : EX} {ad : Nat → Nat} {M : DS} {to a b k hw m : Nat} (hto : to < 6) (ha : a < 6) (hb : b < 6) (hk : k < 4) (hM : ∀ k, k < 6 → (M k).1 ≤ 8 ∧ (M k).2.1 ≤ 8) (hhw : hw ≤ 3) (hf1 : (M a).2.1 = (M b).1) (hm : m < 6) (hf2 : ¬ ((M m).1 = (M a).1 ∧ (M m).2.1 = (M b).2.1)) : CTP l y_D_multiply cw_D_multiply (RM 5) δ (dl δ ad M) [.ref (ad 0), .int (nI to), .int (nI a), .int (nI b), .int (nI k), .int (nI m), .int (nI hw)] (.inl 2) := by
  refine CT.ofP (lv := [(0, .ref (ad 0)), (1, .int (nI to)), (2, .int (nI a)), (3, .int (nI b)), (4, .int (nI k)), (5, .int (nI m)), (6, .int (nI hw))]) (Or.inl ⟨rfl, rfl⟩) (by decide) htr rfl (Nat.le_of_ble_eq_true rfl) (fun κ hl X => ?_)
  subst hl
  have hmv : nI m = -1 ∨ ∃ r, r < 6 ∧ nI m = nI r := Or.inr ⟨m, hm, rfl⟩
  refine g_iload_n X 1 d_D_multiply_0 rfl rfl ?_
  refine g_iload_n X 2 d_D_multiply_1 rfl rfl ?_
  refine g_iload_n X 3 d_D_multiply_2 rfl rfl ?_
  refine g_iload X d_D_multiply_3 rfl ?_
  refine g_SP X KOk.p s_D_69 (c_D_reqOps htr hto ha hb hk) d_D_multiply_5 rfl ⟨Nat.le_of_ble_eq_true rfl, Nat.le_of_ble_eq_true rfl, Nat.le_of_ble_eq_true rfl, Nat.le_of_ble_eq_true rfl⟩ ?_
  refine g_iload X d_D_multiply_8 rfl ?_
  refine g_SP X KOk.p s_D_73 (c_D_reqMask htr hmv) d_D_multiply_10 rfl ⟨Nat.le_of_ble_eq_true rfl, Nat.le_of_ble_eq_true rfl, Nat.le_of_ble_eq_true rfl, Nat.le_of_ble_eq_true rfl⟩ ?_
  refine g_iload X d_D_multiply_13 rfl ?_
  refine g_iconst X (v := nI 3) d_D_multiply_15 (by decide) ?_
  refine g_SP X KOk.p s_D_76 (c_D_reqHow htr hhw (by decide)) d_D_multiply_16 rfl ⟨Nat.le_of_ble_eq_true rfl, Nat.le_of_ble_eq_true rfl, Nat.le_of_ble_eq_true rfl, Nat.le_of_ble_eq_true rfl⟩ ?_
  refine g_aload_n X 0 d_D_multiply_19 rfl rfl ?_
  refine r_regs X d_D_multiply_20 ?_
  refine g_iload_n X 2 d_D_multiply_23 rfl rfl ?_
  refine r_aald X rfl (by omega) d_D_multiply_24 ?_
  refine g_astore X d_D_multiply_25 (by decide) ?_
  refine g_aload_n X 0 d_D_multiply_27 rfl rfl ?_
  refine r_regs X d_D_multiply_28 ?_
  refine g_iload_n X 3 d_D_multiply_31 rfl rfl ?_
  refine r_aald X rfl (by omega) d_D_multiply_32 ?_
  refine g_astore X d_D_multiply_33 (by decide) ?_
  refine g_aload X d_D_multiply_35 rfl ?_
  refine r_cols X kf_D_62 d_D_multiply_37 (by omega) ?_
  refine g_aload X d_D_multiply_40 rfl ?_
  refine r_rows X kf_D_58 d_D_multiply_42 (by omega) ?_
  refine g_icmp_ne X 52 d_D_multiply_45 (by decide) (fun hc => ?_) (fun hc => ?_)
  · exact absurd (by rw [hf1]) hc
  clear hc
  refine g_iconst X (v := b2 true) d_D_multiply_48 (by decide) ?_
  refine g_goto X 53 d_D_multiply_49 (by decide) ?_
  refine g_SP X KOk.p s_D_79 (c_D_reqFit htr (b := true) rfl) d_D_multiply_53 rfl ⟨Nat.le_of_ble_eq_true rfl, Nat.le_of_ble_eq_true rfl, Nat.le_of_ble_eq_true rfl, Nat.le_of_ble_eq_true rfl⟩ ?_
  refine g_iload X d_D_multiply_56 rfl ?_
  refine g_iconst X (v := (-1)) d_D_multiply_58 (by decide) ?_
  refine g_icmp_eq X 85 d_D_multiply_59 (by decide) (fun hc => ?_) (fun hc => ?_)
  · exact absurd hc (nI_m1 hm)
  refine g_aload_n X 0 d_D_multiply_62 rfl rfl ?_
  refine r_regs X d_D_multiply_63 ?_
  refine g_iload X d_D_multiply_66 rfl ?_
  refine r_aald X rfl (by omega) d_D_multiply_68 ?_
  refine g_aload X d_D_multiply_69 rfl ?_
  refine r_rows X kf_D_58 d_D_multiply_71 (by omega) ?_
  refine g_aload X d_D_multiply_74 rfl ?_
  refine r_cols X kf_D_62 d_D_multiply_76 (by omega) ?_
  refine g_VP X KOk.p v_D_82 (dl_m (by omega)) rfl (c_M_isShaped htr (by omega) (hM m (by omega)).1 (hM m (by omega)).2 (hM a (by omega)).1 (hM b (by omega)).2) d_D_multiply_79 rfl ⟨Nat.le_of_ble_eq_true rfl, Nat.le_of_ble_eq_true rfl, Nat.le_of_ble_eq_true rfl, Nat.le_of_ble_eq_true rfl⟩ ?_
  refine g_if_eq X 89 d_D_multiply_82 (by decide) (fun he => ?_) (fun he => ?_)
  · refine g_iconst X (v := b2 false) d_D_multiply_89 (by decide) ?_
    exact g_ST X KOk.p s_D_79 (c_D_reqFit_x htr (b := false) rfl) d_D_multiply_90 rfl ⟨Nat.le_of_ble_eq_true rfl, Nat.le_of_ble_eq_true rfl, Nat.le_of_ble_eq_true rfl, Nat.le_of_ble_eq_true rfl⟩ ⟨rfl, rfl⟩
  · exact absurd (b2_t he) (by rw [decide_eq_false hf2]; decide)
set_option maxHeartbeats 4000000 in
set_option maxRecDepth 100000 in
theorem c_D_multiply_x4 {l : Launch} (htr : l.stackTraces = false) {δ : EX} {ad : Nat → Nat} {M : DS} {to a b k hw : Nat} {mv : Int32} (hto : to < 6) (ha : a < 6) (hb : b < 6) (hk : k < 4) (hM : ∀ k, k < 6 → (M k).1 ≤ 8 ∧ (M k).2.1 ≤ 8) (hhw : hw ≤ 3) (hf1 : (M a).2.1 = (M b).1) (hf2 : mv = -1 ∨ ∃ m, m < 6 ∧ mv = nI m ∧ ((M m).1 = (M a).1 ∧ (M m).2.1 = (M b).2.1)) (h2 : 2 ≤ hw) (hf3 : ¬ ((M to).1 = (M a).1 ∧ (M to).2.1 = (M b).2.1)) : CTP l y_D_multiply cw_D_multiply (RM 5) δ (dl δ ad M) [.ref (ad 0), .int (nI to), .int (nI a), .int (nI b), .int (nI k), .int mv, .int (nI hw)] (.inl 2) := by
  refine CT.ofP (lv := [(0, .ref (ad 0)), (1, .int (nI to)), (2, .int (nI a)), (3, .int (nI b)), (4, .int (nI k)), (5, .int mv), (6, .int (nI hw))]) (Or.inl ⟨rfl, rfl⟩) (by decide) htr rfl (Nat.le_of_ble_eq_true rfl) (fun κ hl X => ?_)
  subst hl
  have hmv : mv = -1 ∨ ∃ r, r < 6 ∧ mv = nI r := by
    rcases hf2 with q | ⟨m, q1, q2, -⟩
    · exact Or.inl q
    · exact Or.inr ⟨m, q1, q2⟩
  refine g_iload_n X 1 d_D_multiply_0 rfl rfl ?_
  refine g_iload_n X 2 d_D_multiply_1 rfl rfl ?_
  refine g_iload_n X 3 d_D_multiply_2 rfl rfl ?_
  refine g_iload X d_D_multiply_3 rfl ?_
  refine g_SP X KOk.p s_D_69 (c_D_reqOps htr hto ha hb hk) d_D_multiply_5 rfl ⟨Nat.le_of_ble_eq_true rfl, Nat.le_of_ble_eq_true rfl, Nat.le_of_ble_eq_true rfl, Nat.le_of_ble_eq_true rfl⟩ ?_
  refine g_iload X d_D_multiply_8 rfl ?_
  refine g_SP X KOk.p s_D_73 (c_D_reqMask htr hmv) d_D_multiply_10 rfl ⟨Nat.le_of_ble_eq_true rfl, Nat.le_of_ble_eq_true rfl, Nat.le_of_ble_eq_true rfl, Nat.le_of_ble_eq_true rfl⟩ ?_
  refine g_iload X d_D_multiply_13 rfl ?_
  refine g_iconst X (v := nI 3) d_D_multiply_15 (by decide) ?_
  refine g_SP X KOk.p s_D_76 (c_D_reqHow htr hhw (by decide)) d_D_multiply_16 rfl ⟨Nat.le_of_ble_eq_true rfl, Nat.le_of_ble_eq_true rfl, Nat.le_of_ble_eq_true rfl, Nat.le_of_ble_eq_true rfl⟩ ?_
  refine g_aload_n X 0 d_D_multiply_19 rfl rfl ?_
  refine r_regs X d_D_multiply_20 ?_
  refine g_iload_n X 2 d_D_multiply_23 rfl rfl ?_
  refine r_aald X rfl (by omega) d_D_multiply_24 ?_
  refine g_astore X d_D_multiply_25 (by decide) ?_
  refine g_aload_n X 0 d_D_multiply_27 rfl rfl ?_
  refine r_regs X d_D_multiply_28 ?_
  refine g_iload_n X 3 d_D_multiply_31 rfl rfl ?_
  refine r_aald X rfl (by omega) d_D_multiply_32 ?_
  refine g_astore X d_D_multiply_33 (by decide) ?_
  refine g_aload X d_D_multiply_35 rfl ?_
  refine r_cols X kf_D_62 d_D_multiply_37 (by omega) ?_
  refine g_aload X d_D_multiply_40 rfl ?_
  refine r_rows X kf_D_58 d_D_multiply_42 (by omega) ?_
  refine g_icmp_ne X 52 d_D_multiply_45 (by decide) (fun hc => ?_) (fun hc => ?_)
  · exact absurd (by rw [hf1]) hc
  clear hc
  refine g_iconst X (v := b2 true) d_D_multiply_48 (by decide) ?_
  refine g_goto X 53 d_D_multiply_49 (by decide) ?_
  refine g_SP X KOk.p s_D_79 (c_D_reqFit htr (b := true) rfl) d_D_multiply_53 rfl ⟨Nat.le_of_ble_eq_true rfl, Nat.le_of_ble_eq_true rfl, Nat.le_of_ble_eq_true rfl, Nat.le_of_ble_eq_true rfl⟩ ?_
  refine (fun (c93 : G κ 14 δ (Kp κ) (Qe κ δ NoA (fun r' w => r' = .inl 2 ∧ w = dl δ ad M)) 0 0 (dl δ ad M) [(0, .ref (ad 0)), (1, .int (nI to)), (4, .int (nI k)), (5, .int mv), (6, .int (nI hw)), (7, .ref (mq ad a)), (8, .ref (mq ad b))] [] 93) => ?_) ?_
  · refine g_iload X d_D_multiply_56 rfl ?_
    refine g_iconst X (v := (-1)) d_D_multiply_58 (by decide) ?_
    refine g_icmp_eq X 85 d_D_multiply_59 (by decide) (fun hd => ?_) (fun hd => ?_)
    · refine g_iconst X (v := b2 true) d_D_multiply_85 (by decide) ?_
      refine g_goto X 90 d_D_multiply_86 (by decide) ?_
      refine g_SP X KOk.p s_D_79 (c_D_reqFit htr (b := true) rfl) d_D_multiply_90 rfl ⟨Nat.le_of_ble_eq_true rfl, Nat.le_of_ble_eq_true rfl, Nat.le_of_ble_eq_true rfl, Nat.le_of_ble_eq_true rfl⟩ ?_
      exact g_sb c93 ⟨rfl, rfl, rfl, rfl, rfl, rfl, rfl, trivial⟩
    · rcases hf2 with q | ⟨m, q1, q2, q3⟩
      · exact absurd q hd
      subst q2
      refine g_aload_n X 0 d_D_multiply_62 rfl rfl ?_
      refine r_regs X d_D_multiply_63 ?_
      refine g_iload X d_D_multiply_66 rfl ?_
      refine r_aald X rfl (by omega) d_D_multiply_68 ?_
      refine g_aload X d_D_multiply_69 rfl ?_
      refine r_rows X kf_D_58 d_D_multiply_71 (by omega) ?_
      refine g_aload X d_D_multiply_74 rfl ?_
      refine r_cols X kf_D_62 d_D_multiply_76 (by omega) ?_
      refine g_VP X KOk.p v_D_82 (dl_m (by omega)) rfl (c_M_isShaped htr (by omega) (hM m (by omega)).1 (hM m (by omega)).2 (hM a (by omega)).1 (hM b (by omega)).2) d_D_multiply_79 rfl ⟨Nat.le_of_ble_eq_true rfl, Nat.le_of_ble_eq_true rfl, Nat.le_of_ble_eq_true rfl, Nat.le_of_ble_eq_true rfl⟩ ?_
      refine g_if_eq X 89 d_D_multiply_82 (by decide) (fun he => ?_) (fun he => ?_)
      · exact absurd (b2_0.mp he) (by rw [decide_eq_true q3]; decide)
      · refine g_iconst X (v := b2 true) d_D_multiply_85 (by decide) ?_
        refine g_goto X 90 d_D_multiply_86 (by decide) ?_
        refine g_SP X KOk.p s_D_79 (c_D_reqFit htr (b := true) rfl) d_D_multiply_90 rfl ⟨Nat.le_of_ble_eq_true rfl, Nat.le_of_ble_eq_true rfl, Nat.le_of_ble_eq_true rfl, Nat.le_of_ble_eq_true rfl⟩ ?_
        exact g_sb c93 ⟨rfl, rfl, rfl, rfl, rfl, rfl, rfl, trivial⟩
  refine g_iload X d_D_multiply_93 rfl ?_
  refine g_iconst X (v := 2) d_D_multiply_95 (by decide) ?_
  refine g_iand X d_D_multiply_96 ?_
  refine g_if_eq X 104 d_D_multiply_97 (by decide) (fun hc => ?_) (fun hc => ?_)
  · exact absurd h2 ((and2 hhw).mp hc)
  · clear hc
    refine g_iconst X (v := b2 true) d_D_multiply_100 (by decide) ?_
    refine g_goto X 105 d_D_multiply_101 (by decide) ?_
    refine g_istore X d_D_multiply_105 (by decide) ?_
    refine g_iload X d_D_multiply_107 rfl ?_
    refine g_if_eq X 134 d_D_multiply_109 (by decide) (fun hd => ?_) (fun hd => ?_)
    · exact absurd hd (by decide)
    · refine g_aload_n X 0 d_D_multiply_112 rfl rfl ?_
      refine r_regs X d_D_multiply_113 ?_
      refine g_iload_n X 1 d_D_multiply_116 rfl rfl ?_
      refine r_aald X rfl (by omega) d_D_multiply_117 ?_
      refine g_aload X d_D_multiply_118 rfl ?_
      refine r_rows X kf_D_58 d_D_multiply_120 (by omega) ?_
      refine g_aload X d_D_multiply_123 rfl ?_
      refine r_cols X kf_D_62 d_D_multiply_125 (by omega) ?_
      refine g_VP X KOk.p v_D_82 (dl_m (by omega)) rfl (c_M_isShaped htr (by omega) (hM to (by omega)).1 (hM to (by omega)).2 (hM a (by omega)).1 (hM b (by omega)).2) d_D_multiply_128 rfl ⟨Nat.le_of_ble_eq_true rfl, Nat.le_of_ble_eq_true rfl, Nat.le_of_ble_eq_true rfl, Nat.le_of_ble_eq_true rfl⟩ ?_
      refine g_if_eq X 138 d_D_multiply_131 (by decide) (fun he => ?_) (fun he => ?_)
      · refine g_iconst X (v := b2 false) d_D_multiply_138 (by decide) ?_
        exact g_ST X KOk.p s_D_79 (c_D_reqFit_x htr (b := false) rfl) d_D_multiply_139 rfl ⟨Nat.le_of_ble_eq_true rfl, Nat.le_of_ble_eq_true rfl, Nat.le_of_ble_eq_true rfl, Nat.le_of_ble_eq_true rfl⟩ ⟨rfl, rfl⟩
      · exact absurd (b2_t he) (by rw [decide_eq_false hf3]; decide)
end PE
