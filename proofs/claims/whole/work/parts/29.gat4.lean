section GD4
/-- levels: a neighbour j of i; the vertices of a level -/
def nbj (G : Mx) (i lev j : Nat) (S : Mx) : Mx := if mHas G (8 * i + j) = true ∧ mHas S (8 * 0 + j) = false then mEnter S (8 * 0 + j) (nI lev).toInt64 else S
def nlI (G : Mx) (lev i : Nat) (S : Mx) : Mx := if mHas S (8 * 0 + i) = true ∧ mVal S (8 * 0 + i) = (nI lev).toInt64 then fl (nbj G i (lev + 1)) 0 G.2.1 S else S
/-- paths: over a vertex -/
def shj (o i j : Nat) (S : Mx) : Option Mx := if mHas S (8 * i + o) = true ∧ mHas S (8 * o + j) = true then (prS 1 (mVal S (8 * i + o)) (mVal S (8 * o + j))).bind (gaS 1 S (8 * i + j)) else some S
def shi (c o i : Nat) (S : Mx) : Option Mx := fo (shj o i) 0 c S
/-- components: the lesser vertex goes over an entry -/
def spj (G : Mx) (i j : Nat) (S : Mx) : Mx := if mHas G (8 * i + j) = true then mEnter (mEnter S (8 * 0 + i) (miL (mVal S (8 * 0 + i)) (mVal S (8 * 0 + j)))) (8 * 0 + j) (miL (mVal S (8 * 0 + i)) (mVal S (8 * 0 + j))) else S
def spi (G : Mx) (i : Nat) (S : Mx) : Mx := fl (spj G i) 0 G.2.1 S
set_option maxHeartbeats 4000000 in
set_option maxRecDepth 100000 in
theorem l_D_nb {κ : KX} {δ : EX} {ad : Nat → Nat} (X : XO κ R_D b_D_enterNeighbours 5 none δ (RM 1) (Ar ad) []) (htr : (xl κ).stackTraces = false) (hinj : Inj ad) {M : DS} {a i lev : Nat} (ha : a < 6) (hi : i < 8) (h8 : (M a).2.1 ≤ 8) : ∀ n j S, j + n = (M a).2.1 → G κ 5 δ (Kn κ (Ar ad)) (Qe κ δ (Ar ad) (fun r w => r = .inr none ∧ w = dl δ ad (va_up M 6 (fl (nbj (M a) i lev) j n S)))) 0 0 (dl δ ad (va_up M 6 S)) [(4, .int (nI j)), (0, .ref (mq ad 6)), (1, .ref (mq ad a)), (2, .int (nI i)), (3, .int (nI lev))] [] 3 := by
  intro n
  induction n with
  | zero =>
    intro j S hj
    refine g_iload X d_D_enterNeighbours_3 rfl ?_
    refine g_aload_n X 1 d_D_enterNeighbours_5 rfl rfl ?_
    refine r_cols X kf_D_62 d_D_enterNeighbours_6 (by omega) ?_
    rw [va_up6 ha]
    refine g_icmp_ge X 47 d_D_enterNeighbours_9 (by decide) (fun hc => ?_) (fun hc => ?_)
    · exact g_vret X KOk.n d_D_enterNeighbours_47 ⟨rfl, rfl⟩
    · exact absurd (nI_le (by omega) (by omega)) hc
  | succ n ih =>
    intro j S hj
    refine g_iload X d_D_enterNeighbours_3 rfl ?_
    refine g_aload_n X 1 d_D_enterNeighbours_5 rfl rfl ?_
    refine r_cols X kf_D_62 d_D_enterNeighbours_6 (by omega) ?_
    rw [va_up6 ha]
    refine g_icmp_ge X 47 d_D_enterNeighbours_9 (by decide) (fun hc => ?_) (fun hc => ?_)
    · exact absurd hc (nI_ge (by omega) (by omega))
    · clear hc
      show G κ 5 δ (Kn κ (Ar ad)) (Qe κ δ (Ar ad) (fun r w => r = .inr none ∧ w = dl δ ad (va_up M 6 (fl (nbj (M a) i lev) (j + 1) n ((nbj (M a) i lev) j S))))) 0 0 (dl δ ad (va_up M 6 S)) [(4, .int (nI j)), (0, .ref (mq ad 6)), (1, .ref (mq ad a)), (2, .int (nI i)), (3, .int (nI lev))] [] _
      refine g_aload_n X 1 d_D_enterNeighbours_12 rfl rfl ?_
      refine g_iload_n X 2 d_D_enterNeighbours_13 rfl rfl ?_
      refine g_iload X d_D_enterNeighbours_14 rfl ?_
      refine g_VP X KOk.n v_D_43 (dl_m (by omega)) rfl (c_M_has htr (by omega) hi (by omega)) d_D_enterNeighbours_16 rfl ⟨Nat.le_of_ble_eq_true rfl, Nat.le_of_ble_eq_true rfl, Nat.le_of_ble_eq_true rfl, Nat.le_of_ble_eq_true rfl⟩ ?_
      rw [va_up6 ha]
      refine g_if_eq X 41 d_D_enterNeighbours_19 (by decide) (fun hc => ?_) (fun hc => ?_)
      · have h := b2_0.mp hc
        have e : (nbj (M a) i lev) j S = S := by simp [nbj, h]
        rw [e]
        refine g_iinc X d_D_enterNeighbours_41 rfl (nI_1 _) (by decide) ?_
        refine g_goto X 3 d_D_enterNeighbours_44 (by decide) ?_
        exact g_sb (ih (j + 1) S (by omega)) ⟨rfl, rfl, rfl, rfl, rfl, trivial⟩
      · have h := b2_t hc
        refine g_aload_n X 0 d_D_enterNeighbours_22 rfl rfl ?_
        refine g_iconst X (v := nI 0) d_D_enterNeighbours_23 (by decide) ?_
        refine g_iload X d_D_enterNeighbours_24 rfl ?_
        refine g_VP X KOk.n v_D_43 (dl_m (by omega)) rfl (c_M_has htr (by omega) (by omega) (by omega)) d_D_enterNeighbours_26 rfl ⟨Nat.le_of_ble_eq_true rfl, Nat.le_of_ble_eq_true rfl, Nat.le_of_ble_eq_true rfl, Nat.le_of_ble_eq_true rfl⟩ ?_
        rw [va_up_s]
        refine g_if_ne X 41 d_D_enterNeighbours_29 (by decide) (fun hd => ?_) (fun hd => ?_)
        · have h2 := b2_t hd
          have e : (nbj (M a) i lev) j S = S := by simp only [nbj]; rw [if_neg (fun q => by rw [h2] at q; exact absurd q.2 (by decide))]
          rw [e]
          refine g_iinc X d_D_enterNeighbours_41 rfl (nI_1 _) (by decide) ?_
          refine g_goto X 3 d_D_enterNeighbours_44 (by decide) ?_
          exact g_sb (ih (j + 1) S (by omega)) ⟨rfl, rfl, rfl, rfl, rfl, trivial⟩
        · have h2 := b2_0.mp hd
          have e : (nbj (M a) i lev) j S = mEnter S (8 * 0 + j) (nI lev).toInt64 := by simp only [nbj]; rw [if_pos ⟨h, h2⟩]
          rw [e]
          refine g_aload_n X 0 d_D_enterNeighbours_32 rfl rfl ?_
          refine g_iconst X (v := nI 0) d_D_enterNeighbours_33 (by decide) ?_
          refine g_iload X d_D_enterNeighbours_34 rfl ?_
          refine g_iload_n X 3 d_D_enterNeighbours_36 rfl rfl ?_
          refine g_i2l X d_D_enterNeighbours_37 ?_
          refine g_VN1 X v_D_39 (dl_m (by omega)) rfl (c_M_enter htr hinj (by omega) (by omega) (by omega)) d_D_enterNeighbours_38 rfl ⟨Nat.le_of_ble_eq_true rfl, Nat.le_of_ble_eq_true rfl, Nat.le_of_ble_eq_true rfl, Nat.le_of_ble_eq_true rfl⟩ ?_
          rw [va_up_s, bx_uu]
          refine g_iinc X d_D_enterNeighbours_41 rfl (nI_1 _) (by decide) ?_
          refine g_goto X 3 d_D_enterNeighbours_44 (by decide) ?_
          exact g_sb (ih (j + 1) (mEnter S (8 * 0 + j) (nI lev).toInt64) (by omega)) ⟨rfl, rfl, rfl, rfl, rfl, trivial⟩
set_option maxHeartbeats 4000000 in
set_option maxRecDepth 100000 in
theorem c_D_nb {l : Launch} (htr : l.stackTraces = false) {δ : EX} {ad : Nat → Nat} {M : DS} (hinj : Inj ad) {a i lev : Nat} (ha : a < 6) (hi : i < 8) (h8 : (M a).2.1 ≤ 8) : CTN l y_D_enterNeighbours cw_D_enterNeighbours (RM 1) δ (Ar ad) (dl δ ad M) [.ref (mq ad 6), .ref (mq ad a), .int (nI i), .int (nI lev)] none (dl δ ad (va_up M 6 (fl (nbj (M a) i lev) 0 (M a).2.1 (M 6)))) := by
  refine CT.ofN (lv := [(0, .ref (mq ad 6)), (1, .ref (mq ad a)), (2, .int (nI i)), (3, .int (nI lev))]) (Or.inl ⟨rfl, rfl⟩) (by decide) htr rfl (Nat.le_of_ble_eq_true rfl) (fun κ hl X => ?_)
  subst hl
  refine g_iconst X (v := nI 0) d_D_enterNeighbours_0 (by decide) ?_
  refine g_istore X d_D_enterNeighbours_1 (by decide) ?_
  have e := l_D_nb X htr hinj ha hi h8 (lev := lev) (M a).2.1 0 (M 6) (by omega)
  rw [up_id] at e
  exact g_sb e ⟨rfl, rfl, rfl, rfl, rfl, trivial⟩
set_option maxHeartbeats 4000000 in
set_option maxRecDepth 100000 in
theorem l_D_nl {κ : KX} {δ : EX} {ad : Nat → Nat} (X : XO κ R_D b_D_enterNextLevel 4 none δ (RM 2) (Ar ad) []) (htr : (xl κ).stackTraces = false) (hinj : Inj ad) {M : DS} {a lev : Nat} (ha : a < 6) (h7 : (M a).1 ≤ 8) (h8 : (M a).2.1 ≤ 8) : ∀ n i S, i + n = (M a).1 → G κ 4 δ (Kn κ (Ar ad)) (Qe κ δ (Ar ad) (fun r w => r = .inr none ∧ w = dl δ ad (va_up M 6 (fl (nlI (M a) lev) i n S)))) 0 0 (dl δ ad (va_up M 6 S)) [(3, .int (nI i)), (0, .ref (mq ad 6)), (1, .ref (mq ad a)), (2, .int (nI lev))] [] 2 := by
  intro n
  induction n with
  | zero =>
    intro i S hi
    refine g_iload_n X 3 d_D_enterNextLevel_2 rfl rfl ?_
    refine g_aload_n X 1 d_D_enterNextLevel_3 rfl rfl ?_
    refine r_rows X kf_D_58 d_D_enterNextLevel_4 (by omega) ?_
    rw [va_up6 ha]
    refine g_icmp_ge X 46 d_D_enterNextLevel_7 (by decide) (fun hc => ?_) (fun hc => ?_)
    · exact g_vret X KOk.n d_D_enterNextLevel_46 ⟨rfl, rfl⟩
    · exact absurd (nI_le (by omega) (by omega)) hc
  | succ n ih =>
    intro i S hi
    refine g_iload_n X 3 d_D_enterNextLevel_2 rfl rfl ?_
    refine g_aload_n X 1 d_D_enterNextLevel_3 rfl rfl ?_
    refine r_rows X kf_D_58 d_D_enterNextLevel_4 (by omega) ?_
    rw [va_up6 ha]
    refine g_icmp_ge X 46 d_D_enterNextLevel_7 (by decide) (fun hc => ?_) (fun hc => ?_)
    · exact absurd hc (nI_ge (by omega) (by omega))
    · clear hc
      show G κ 4 δ (Kn κ (Ar ad)) (Qe κ δ (Ar ad) (fun r w => r = .inr none ∧ w = dl δ ad (va_up M 6 (fl (nlI (M a) lev) (i + 1) n ((nlI (M a) lev) i S))))) 0 0 (dl δ ad (va_up M 6 S)) [(3, .int (nI i)), (0, .ref (mq ad 6)), (1, .ref (mq ad a)), (2, .int (nI lev))] [] _
      refine g_aload_n X 0 d_D_enterNextLevel_10 rfl rfl ?_
      refine g_iconst X (v := nI 0) d_D_enterNextLevel_11 (by decide) ?_
      refine g_iload_n X 3 d_D_enterNextLevel_12 rfl rfl ?_
      refine g_VP X KOk.n v_D_43 (dl_m (by omega)) rfl (c_M_has htr (by omega) (by omega) (by omega)) d_D_enterNextLevel_13 rfl ⟨Nat.le_of_ble_eq_true rfl, Nat.le_of_ble_eq_true rfl, Nat.le_of_ble_eq_true rfl, Nat.le_of_ble_eq_true rfl⟩ ?_
      rw [va_up_s]
      refine g_if_eq X 40 d_D_enterNextLevel_16 (by decide) (fun hc => ?_) (fun hc => ?_)
      · have h := b2_0.mp hc
        have e : (nlI (M a) lev) i S = S := by simp only [nlI]; rw [if_neg (fun q => by rw [h] at q; exact absurd q.1 (by decide))]
        rw [e]
        refine g_iinc X d_D_enterNextLevel_40 rfl (nI_1 _) (by decide) ?_
        refine g_goto X 2 d_D_enterNextLevel_43 (by decide) ?_
        exact g_sb (ih (i + 1) S (by omega)) ⟨rfl, rfl, rfl, rfl, trivial⟩
      · have h := b2_t hc
        refine g_aload_n X 0 d_D_enterNextLevel_19 rfl rfl ?_
        refine g_iconst X (v := nI 0) d_D_enterNextLevel_20 (by decide) ?_
        refine g_iload_n X 3 d_D_enterNextLevel_21 rfl rfl ?_
        refine g_VP X KOk.n v_D_54 (dl_m (by omega)) rfl (c_M_value htr (by omega) (by omega) (by omega)) d_D_enterNextLevel_22 rfl ⟨Nat.le_of_ble_eq_true rfl, Nat.le_of_ble_eq_true rfl, Nat.le_of_ble_eq_true rfl, Nat.le_of_ble_eq_true rfl⟩ ?_
        rw [va_up_s]
        refine g_iload_n X 2 d_D_enterNextLevel_25 rfl rfl ?_
        refine g_i2l X d_D_enterNextLevel_26 ?_
        refine g_lcmp X d_D_enterNextLevel_27 ?_
        refine g_if_ne X 40 d_D_enterNextLevel_28 (by decide) (fun hd => ?_) (fun hd => ?_)
        · have h2 : ¬ mVal S (8 * 0 + i) = (nI lev).toInt64 := fun q => hd ((lg_cmp_eq _ _).mpr q)
          have e : (nlI (M a) lev) i S = S := by simp only [nlI]; rw [if_neg (fun q => h2 q.2)]
          rw [e]
          refine g_iinc X d_D_enterNextLevel_40 rfl (nI_1 _) (by decide) ?_
          refine g_goto X 2 d_D_enterNextLevel_43 (by decide) ?_
          exact g_sb (ih (i + 1) S (by omega)) ⟨rfl, rfl, rfl, rfl, trivial⟩
        · have h2 := (lg_cmp_eq _ _).mp hd
          have e : (nlI (M a) lev) i S = fl (nbj (M a) i (lev + 1)) 0 (M a).2.1 S := by simp only [nlI]; rw [if_pos ⟨h, h2⟩]
          rw [e]
          refine g_aload_n X 0 d_D_enterNextLevel_31 rfl rfl ?_
          refine g_aload_n X 1 d_D_enterNextLevel_32 rfl rfl ?_
          refine g_iload_n X 3 d_D_enterNextLevel_33 rfl rfl ?_
          refine g_iload_n X 2 d_D_enterNextLevel_34 rfl rfl ?_
          refine g_iconst X (v := 1) d_D_enterNextLevel_35 (by decide) ?_
          refine g_iadd X d_D_enterNextLevel_36 ?_
          refine g_ei (nI_1 lev) ?_
          have hC := c_D_nb htr hinj (δ := δ) (M := va_up M 6 S) (a := a) (i := i) (lev := lev + 1) ha (by omega) (by rw [va_up6 ha]; exact h8)
          rw [va_up6 ha, va_up_s, bx_uu] at hC
          refine g_SN1 X s_D_183 (hC) d_D_enterNextLevel_37 rfl ⟨Nat.le_of_ble_eq_true rfl, Nat.le_of_ble_eq_true rfl, Nat.le_of_ble_eq_true rfl, Nat.le_of_ble_eq_true rfl⟩ ?_
          refine g_iinc X d_D_enterNextLevel_40 rfl (nI_1 _) (by decide) ?_
          refine g_goto X 2 d_D_enterNextLevel_43 (by decide) ?_
          exact g_sb (ih (i + 1) _ (by omega)) ⟨rfl, rfl, rfl, rfl, trivial⟩
set_option maxHeartbeats 4000000 in
set_option maxRecDepth 100000 in
theorem c_D_nl {l : Launch} (htr : l.stackTraces = false) {δ : EX} {ad : Nat → Nat} {M : DS} (hinj : Inj ad) {a lev : Nat} (ha : a < 6) (h7 : (M a).1 ≤ 8) (h8 : (M a).2.1 ≤ 8) : CTN l y_D_enterNextLevel cw_D_enterNextLevel (RM 2) δ (Ar ad) (dl δ ad M) [.ref (mq ad 6), .ref (mq ad a), .int (nI lev)] none (dl δ ad (va_up M 6 (fl (nlI (M a) lev) 0 (M a).1 (M 6)))) := by
  refine CT.ofN (lv := [(0, .ref (mq ad 6)), (1, .ref (mq ad a)), (2, .int (nI lev))]) (Or.inl ⟨rfl, rfl⟩) (by decide) htr rfl (Nat.le_of_ble_eq_true rfl) (fun κ hl X => ?_)
  subst hl
  refine g_iconst X (v := nI 0) d_D_enterNextLevel_0 (by decide) ?_
  refine g_istore_n X 3 d_D_enterNextLevel_1 rfl (by decide) ?_
  have e := l_D_nl X htr hinj ha h7 h8 (lev := lev) (M a).1 0 (M 6) (by omega)
  rw [up_id] at e
  exact g_sb e ⟨rfl, rfl, rfl, rfl, trivial⟩
theorem gaS_sh {k p : Nat} {S S' : Mx} {v : Int64} (h : gaS k S p v = some S') : S'.1 = S.1 ∧ S'.2.1 = S.2.1 := by
  unfold gaS at h
  split at h
  · cases hs : suS k (mVal S p) v with
    | none => rw [hs] at h; cases h
    | some z => rw [hs] at h; cases h; exact ⟨rfl, rfl⟩
  · cases h; exact ⟨rfl, rfl⟩
theorem shj_sh {o i j : Nat} {S S' : Mx} (h : shj o i j S = some S') : S'.1 = S.1 ∧ S'.2.1 = S.2.1 := by
  unfold shj at h
  split at h
  · cases hs : prS 1 (mVal S (8 * i + o)) (mVal S (8 * o + j)) with
    | none => rw [hs] at h; cases h
    | some z => rw [hs] at h; exact gaS_sh h
  · cases h; exact ⟨rfl, rfl⟩
theorem fo_sh {f : Nat → Mx → Option Mx} (hf : ∀ i S S', f i S = some S' → S'.1 = S.1 ∧ S'.2.1 = S.2.1) : ∀ n i S S', fo f i n S = some S' → S'.1 = S.1 ∧ S'.2.1 = S.2.1
  | 0, _, _, _, h => by cases h; exact ⟨rfl, rfl⟩
  | n + 1, i, S, S', h => by
    cases hs : f i S with
    | none => rw [fo_n hs] at h; cases h
    | some z =>
      rw [fo_s hs] at h
      have h1 := fo_sh hf n (i + 1) z S' h
      have h2 := hf i S z hs
      exact ⟨h1.1.trans h2.1, h1.2.trans h2.2⟩
set_option maxHeartbeats 4000000 in
set_option maxRecDepth 100000 in
theorem l_D_shj {κ : KX} {δ : EX} {ad : Nat → Nat} (X : XO κ R_D b_D_shortenOver 6 none δ (RM 4) (Ar ad) []) (htr : (xl κ).stackTraces = false) (hinj : Inj ad) {M : DS} {P' : OC → va_W → Prop} {o i C : Nat} (ho : o < 8) (hi : i < 8) (h8 : C ≤ 8) : ∀ n j S, j + n = C → S.2.1 = C → (∀ S', fo (shj o i) j n S = some S' → G κ 6 δ (Kn κ (Ar ad)) (Qe κ δ (Ar ad) P') 0 0 (dl δ ad (va_up M 6 S')) [(0, .ref (mq ad 6)), (1, .int (nI o)), (2, .int (nI i))] [] 71) → (fo (shj o i) j n S = none → ∀ S', P' (.inl 4) (dl δ ad (va_up M 6 S'))) → G κ 6 δ (Kn κ (Ar ad)) (Qe κ δ (Ar ad) P') 0 0 (dl δ ad (va_up M 6 S)) [(3, .int (nI j)), (0, .ref (mq ad 6)), (1, .int (nI o)), (2, .int (nI i))] [] 12 := by
  intro n
  induction n with
  | zero =>
    intro j S hj hs hx ht
    refine g_iload_n X 3 d_D_shortenOver_12 rfl rfl ?_
    refine g_aload_n X 0 d_D_shortenOver_13 rfl rfl ?_
    refine r_cols X kf_D_62 d_D_shortenOver_14 (by omega) ?_
    rw [va_up_s, hs]
    refine g_icmp_ge X 71 d_D_shortenOver_17 (by decide) (fun hc => ?_) (fun hc => ?_)
    · exact g_sb (hx S rfl) ⟨rfl, rfl, rfl, trivial⟩
    · exact absurd (nI_le (by omega) (by omega)) hc
  | succ n ih =>
    intro j S hj hs hx ht
    refine g_iload_n X 3 d_D_shortenOver_12 rfl rfl ?_
    refine g_aload_n X 0 d_D_shortenOver_13 rfl rfl ?_
    refine r_cols X kf_D_62 d_D_shortenOver_14 (by omega) ?_
    rw [va_up_s, hs]
    refine g_icmp_ge X 71 d_D_shortenOver_17 (by decide) (fun hc => ?_) (fun hc => ?_)
    · exact absurd hc (nI_ge (by omega) (by omega))
    · clear hc
      refine g_aload_n X 0 d_D_shortenOver_20 rfl rfl ?_
      refine g_iload_n X 2 d_D_shortenOver_21 rfl rfl ?_
      refine g_iload_n X 1 d_D_shortenOver_22 rfl rfl ?_
      refine g_VP X KOk.n v_D_43 (dl_m (by omega)) rfl (c_M_has htr (by omega) hi ho) d_D_shortenOver_23 rfl ⟨Nat.le_of_ble_eq_true rfl, Nat.le_of_ble_eq_true rfl, Nat.le_of_ble_eq_true rfl, Nat.le_of_ble_eq_true rfl⟩ ?_
      rw [va_up_s]
      refine g_if_eq X 65 d_D_shortenOver_26 (by decide) (fun hc => ?_) (fun hc => ?_)
      · have h := b2_0.mp hc
        have e : (shj o i) j S = some S := by simp [shj, h]
        rw [fo_s e] at hx ht
        refine g_iinc X d_D_shortenOver_65 rfl (nI_1 _) (by decide) ?_
        refine g_goto X 12 d_D_shortenOver_68 (by decide) ?_
        exact g_sb (ih (j + 1) S (by omega) hs hx ht) ⟨rfl, rfl, rfl, rfl, trivial⟩
      · have h := b2_t hc
        refine g_aload_n X 0 d_D_shortenOver_29 rfl rfl ?_
        refine g_iload_n X 1 d_D_shortenOver_30 rfl rfl ?_
        refine g_iload_n X 3 d_D_shortenOver_31 rfl rfl ?_
        refine g_VP X KOk.n v_D_43 (dl_m (by omega)) rfl (c_M_has htr (by omega) ho (by omega)) d_D_shortenOver_32 rfl ⟨Nat.le_of_ble_eq_true rfl, Nat.le_of_ble_eq_true rfl, Nat.le_of_ble_eq_true rfl, Nat.le_of_ble_eq_true rfl⟩ ?_
        rw [va_up_s]
        refine g_if_eq X 65 d_D_shortenOver_35 (by decide) (fun hd => ?_) (fun hd => ?_)
        · have h2 := b2_0.mp hd
          have e : (shj o i) j S = some S := by simp [shj, h2]
          rw [fo_s e] at hx ht
          refine g_iinc X d_D_shortenOver_65 rfl (nI_1 _) (by decide) ?_
          refine g_goto X 12 d_D_shortenOver_68 (by decide) ?_
          exact g_sb (ih (j + 1) S (by omega) hs hx ht) ⟨rfl, rfl, rfl, rfl, trivial⟩
        · have h2 := b2_t hd
          refine g_iconst X (v := nI 1) d_D_shortenOver_38 (by decide) ?_
          refine g_aload_n X 0 d_D_shortenOver_39 rfl rfl ?_
          refine g_iload_n X 2 d_D_shortenOver_40 rfl rfl ?_
          refine g_iload_n X 1 d_D_shortenOver_41 rfl rfl ?_
          refine g_VP X KOk.n v_D_54 (dl_m (by omega)) rfl (c_M_value htr (by omega) hi ho) d_D_shortenOver_42 rfl ⟨Nat.le_of_ble_eq_true rfl, Nat.le_of_ble_eq_true rfl, Nat.le_of_ble_eq_true rfl, Nat.le_of_ble_eq_true rfl⟩ ?_
          rw [va_up_s]
          refine g_aload_n X 0 d_D_shortenOver_45 rfl rfl ?_
          refine g_iload_n X 1 d_D_shortenOver_46 rfl rfl ?_
          refine g_iload_n X 3 d_D_shortenOver_47 rfl rfl ?_
          refine g_VP X KOk.n v_D_54 (dl_m (by omega)) rfl (c_M_value htr (by omega) ho (by omega)) d_D_shortenOver_48 rfl ⟨Nat.le_of_ble_eq_true rfl, Nat.le_of_ble_eq_true rfl, Nat.le_of_ble_eq_true rfl, Nat.le_of_ble_eq_true rfl⟩ ?_
          rw [va_up_s]
          have hC := c_D_productOver htr (δ := δ) (ad := ad) (M := va_up M 6 S) (k := 1) (x := mVal S (8 * i + o)) (y := mVal S (8 * o + j)) (by decide)
          cases hv : prS 1 (mVal S (8 * i + o)) (mVal S (8 * o + j)) with
          | none =>
            rw [hv] at hC
            have e : (shj o i) j S = none := by simp [shj, h, h2, hv]
            exact g_ST X KOk.n s_D_108 (hC) d_D_shortenOver_51 rfl ⟨Nat.le_of_ble_eq_true rfl, Nat.le_of_ble_eq_true rfl, Nat.le_of_ble_eq_true rfl, Nat.le_of_ble_eq_true rfl⟩ (ht (fo_n e) S)
          | some z =>
            rw [hv] at hC
            have e : (shj o i) j S = gaS 1 S (8 * i + j) z := by simp [shj, h, h2, hv]
            refine g_SP X KOk.n s_D_108 (hC) d_D_shortenOver_51 rfl ⟨Nat.le_of_ble_eq_true rfl, Nat.le_of_ble_eq_true rfl, Nat.le_of_ble_eq_true rfl, Nat.le_of_ble_eq_true rfl⟩ ?_
            refine g_lstore X d_D_shortenOver_54 (by decide) ?_
            refine g_aload_n X 0 d_D_shortenOver_56 rfl rfl ?_
            refine g_iload_n X 2 d_D_shortenOver_57 rfl rfl ?_
            refine g_iload_n X 3 d_D_shortenOver_58 rfl rfl ?_
            refine g_lload X d_D_shortenOver_59 rfl ?_
            refine g_iconst X (v := nI 1) d_D_shortenOver_61 (by decide) ?_
            refine g_SPO X s_D_119 (c_D_gather htr hinj hi (by omega) (by decide)) d_D_shortenOver_62 rfl ⟨Nat.le_of_ble_eq_true rfl, Nat.le_of_ble_eq_true rfl, Nat.le_of_ble_eq_true rfl, Nat.le_of_ble_eq_true rfl⟩ (fun S' hS => ?_) (fun hS S' => ?_)
            · rw [va_up_s] at hS
              have hs' := (gaS_sh hS).2.trans hs
              rw [fo_s (e.trans hS)] at hx ht
              refine g_iinc X d_D_shortenOver_65 rfl (nI_1 _) (by decide) ?_
              refine g_goto X 12 d_D_shortenOver_68 (by decide) ?_
              exact g_sb (ih (j + 1) S' (by omega) hs' hx ht) ⟨rfl, rfl, rfl, rfl, trivial⟩
            · rw [va_up_s] at hS
              exact ht (fo_n (e.trans hS)) S'
set_option maxHeartbeats 4000000 in
set_option maxRecDepth 100000 in
theorem l_D_shi {κ : KX} {δ : EX} {ad : Nat → Nat} (X : XO κ R_D b_D_shortenOver 6 none δ (RM 4) (Ar ad) []) (htr : (xl κ).stackTraces = false) (hinj : Inj ad) {M : DS} {o R C : Nat} (ho : o < 8) (h7 : R ≤ 8) (h8 : C ≤ 8) : ∀ n i S, i + n = R → S.1 = R → S.2.1 = C → G κ 6 δ (Kn κ (Ar ad)) (Qe κ δ (Ar ad) (PO δ ad M (fo (shi C o) i n S))) 0 0 (dl δ ad (va_up M 6 S)) [(2, .int (nI i)), (0, .ref (mq ad 6)), (1, .int (nI o))] [] 2 := by
  intro n
  induction n with
  | zero =>
    intro i S hi h1 h2
    refine g_iload_n X 2 d_D_shortenOver_2 rfl rfl ?_
    refine g_aload_n X 0 d_D_shortenOver_3 rfl rfl ?_
    refine r_rows X kf_D_58 d_D_shortenOver_4 (by omega) ?_
    rw [va_up_s, h1]
    refine g_icmp_ge X 77 d_D_shortenOver_7 (by decide) (fun hc => ?_) (fun hc => ?_)
    · exact g_vret X KOk.n d_D_shortenOver_77 (Or.inl ⟨S, rfl, rfl, rfl⟩)
    · exact absurd (nI_le (by omega) (by omega)) hc
  | succ n ih =>
    intro i S hi h1 h2
    refine g_iload_n X 2 d_D_shortenOver_2 rfl rfl ?_
    refine g_aload_n X 0 d_D_shortenOver_3 rfl rfl ?_
    refine r_rows X kf_D_58 d_D_shortenOver_4 (by omega) ?_
    rw [va_up_s, h1]
    refine g_icmp_ge X 77 d_D_shortenOver_7 (by decide) (fun hc => ?_) (fun hc => ?_)
    · exact absurd hc (nI_ge (by omega) (by omega))
    · clear hc
      refine g_iconst X (v := nI 0) d_D_shortenOver_10 (by decide) ?_
      refine g_istore_n X 3 d_D_shortenOver_11 rfl (by decide) ?_
      refine g_sb (l_D_shj X htr hinj ho (by omega) h8 C 0 S (by omega) h2 (fun S' hS => ?_) (fun hS S' => ?_)) ⟨rfl, rfl, rfl, rfl, trivial⟩
      · have q := fo_sh (f := shj o i) (fun j S S' h => shj_sh h) _ _ _ _ hS
        rw [fo_s (f := shi C o) hS]
        refine g_iinc X d_D_shortenOver_71 rfl (nI_1 _) (by decide) ?_
        refine g_goto X 2 d_D_shortenOver_74 (by decide) ?_
        exact g_sb (ih (i + 1) S' (by omega) (q.1.trans h1) (q.2.trans h2)) ⟨rfl, rfl, rfl, trivial⟩
      · exact Or.inr ⟨fo_n (f := shi C o) hS, rfl, S', rfl⟩
set_option maxHeartbeats 4000000 in
set_option maxRecDepth 100000 in
theorem c_D_sh {l : Launch} (htr : l.stackTraces = false) {δ : EX} {ad : Nat → Nat} {M : DS} (hinj : Inj ad) {o : Nat} (ho : o < 8) (h7 : (M 6).1 ≤ 8) (h8 : (M 6).2.1 ≤ 8) : CT l y_D_shortenOver cw_D_shortenOver (RM 4) δ (Ar ad) (dl δ ad M) [.ref (mq ad 6), .int (nI o)] (PO δ ad M (fo (shi (M 6).2.1 o) 0 (M 6).1 (M 6))) := by
  refine CT.ofN (lv := [(0, .ref (mq ad 6)), (1, .int (nI o))]) (Or.inl ⟨rfl, rfl⟩) (by decide) htr rfl (Nat.le_of_ble_eq_true rfl) (fun κ hl X => ?_)
  subst hl
  refine g_iconst X (v := nI 0) d_D_shortenOver_0 (by decide) ?_
  refine g_istore_n X 2 d_D_shortenOver_1 rfl (by decide) ?_
  have e := l_D_shi X htr hinj ho h7 h8 (M 6).1 0 (M 6) (by omega) rfl rfl (M := M)
  rw [up_id] at e
  exact g_sb e ⟨rfl, rfl, rfl, trivial⟩
set_option maxHeartbeats 4000000 in
set_option maxRecDepth 100000 in
theorem l_D_spj {κ : KX} {δ : EX} {ad : Nat → Nat} (X : XO κ R_D b_D_spreadLeastVertices 6 none δ (RM 1) (Ar ad) []) (htr : (xl κ).stackTraces = false) (hinj : Inj ad) {M : DS} {P' : OC → va_W → Prop} {a i : Nat} (ha : a < 6) (hi : i < 8) (h8 : (M a).2.1 ≤ 8) : ∀ n j S, j + n = (M a).2.1 → G κ 6 δ (Kn κ (Ar ad)) (Qe κ δ (Ar ad) P') 0 0 (dl δ ad (va_up M 6 (fl (spj (M a) i) j n S))) [(0, .ref (mq ad 6)), (1, .ref (mq ad a)), (2, .int (nI i))] [] 68 → G κ 6 δ (Kn κ (Ar ad)) (Qe κ δ (Ar ad) P') 0 0 (dl δ ad (va_up M 6 S)) [(3, .int (nI j)), (0, .ref (mq ad 6)), (1, .ref (mq ad a)), (2, .int (nI i))] [] 12 := by
  intro n
  induction n with
  | zero =>
    intro j S hj hx
    refine g_iload_n X 3 d_D_spreadLeastVertices_12 rfl rfl ?_
    refine g_aload_n X 1 d_D_spreadLeastVertices_13 rfl rfl ?_
    refine r_cols X kf_D_62 d_D_spreadLeastVertices_14 (by omega) ?_
    rw [va_up6 ha]
    refine g_icmp_ge X 68 d_D_spreadLeastVertices_17 (by decide) (fun hc => ?_) (fun hc => ?_)
    · exact g_sb hx ⟨rfl, rfl, rfl, trivial⟩
    · exact absurd (nI_le (by omega) (by omega)) hc
  | succ n ih =>
    intro j S hj hx
    refine g_iload_n X 3 d_D_spreadLeastVertices_12 rfl rfl ?_
    refine g_aload_n X 1 d_D_spreadLeastVertices_13 rfl rfl ?_
    refine r_cols X kf_D_62 d_D_spreadLeastVertices_14 (by omega) ?_
    rw [va_up6 ha]
    refine g_icmp_ge X 68 d_D_spreadLeastVertices_17 (by decide) (fun hc => ?_) (fun hc => ?_)
    · exact absurd hc (nI_ge (by omega) (by omega))
    · clear hc
      refine g_aload_n X 1 d_D_spreadLeastVertices_20 rfl rfl ?_
      refine g_iload_n X 2 d_D_spreadLeastVertices_21 rfl rfl ?_
      refine g_iload_n X 3 d_D_spreadLeastVertices_22 rfl rfl ?_
      refine g_VP X KOk.n v_D_43 (dl_m (by omega)) rfl (c_M_has htr (by omega) hi (by omega)) d_D_spreadLeastVertices_23 rfl ⟨Nat.le_of_ble_eq_true rfl, Nat.le_of_ble_eq_true rfl, Nat.le_of_ble_eq_true rfl, Nat.le_of_ble_eq_true rfl⟩ ?_
      rw [va_up6 ha]
      refine g_if_eq X 62 d_D_spreadLeastVertices_26 (by decide) (fun hc => ?_) (fun hc => ?_)
      · have h := b2_0.mp hc
        have e : (spj (M a) i) j S = S := by simp [spj, h]
        have hx' := hx
        simp only [fl, e] at hx'
        refine g_iinc X d_D_spreadLeastVertices_62 rfl (nI_1 _) (by decide) ?_
        refine g_goto X 12 d_D_spreadLeastVertices_65 (by decide) ?_
        exact g_sb (ih (j + 1) S (by omega) hx') ⟨rfl, rfl, rfl, rfl, trivial⟩
      · have h := b2_t hc
        have e : (spj (M a) i) j S = mEnter (mEnter S (8 * 0 + i) (miL (mVal S (8 * 0 + i)) (mVal S (8 * 0 + j)))) (8 * 0 + j) (miL (mVal S (8 * 0 + i)) (mVal S (8 * 0 + j))) := by simp only [spj]; rw [if_pos h]
        have hx' := hx
        simp only [fl, e] at hx'
        refine g_aload_n X 0 d_D_spreadLeastVertices_29 rfl rfl ?_
        refine g_iconst X (v := nI 0) d_D_spreadLeastVertices_30 (by decide) ?_
        refine g_iload_n X 2 d_D_spreadLeastVertices_31 rfl rfl ?_
        refine g_VP X KOk.n v_D_54 (dl_m (by omega)) rfl (c_M_value htr (by omega) (by omega) (by omega)) d_D_spreadLeastVertices_32 rfl ⟨Nat.le_of_ble_eq_true rfl, Nat.le_of_ble_eq_true rfl, Nat.le_of_ble_eq_true rfl, Nat.le_of_ble_eq_true rfl⟩ ?_
        rw [va_up_s]
        refine g_aload_n X 0 d_D_spreadLeastVertices_35 rfl rfl ?_
        refine g_iconst X (v := nI 0) d_D_spreadLeastVertices_36 (by decide) ?_
        refine g_iload_n X 3 d_D_spreadLeastVertices_37 rfl rfl ?_
        refine g_VP X KOk.n v_D_54 (dl_m (by omega)) rfl (c_M_value htr (by omega) (by omega) (by omega)) d_D_spreadLeastVertices_38 rfl ⟨Nat.le_of_ble_eq_true rfl, Nat.le_of_ble_eq_true rfl, Nat.le_of_ble_eq_true rfl, Nat.le_of_ble_eq_true rfl⟩ ?_
        rw [va_up_s]
        refine g_lmin X kl_D_153 d_D_spreadLeastVertices_41 ⟨Nat.le_of_ble_eq_true rfl, Nat.le_of_ble_eq_true rfl, Nat.le_of_ble_eq_true rfl, Nat.le_of_ble_eq_true rfl⟩ ?_
        refine g_lstore X d_D_spreadLeastVertices_44 (by decide) ?_
        refine g_aload_n X 0 d_D_spreadLeastVertices_46 rfl rfl ?_
        refine g_iconst X (v := nI 0) d_D_spreadLeastVertices_47 (by decide) ?_
        refine g_iload_n X 2 d_D_spreadLeastVertices_48 rfl rfl ?_
        refine g_lload X d_D_spreadLeastVertices_49 rfl ?_
        refine g_VN1 X v_D_39 (dl_m (by omega)) rfl (c_M_enter htr hinj (by omega) (by omega) (by omega)) d_D_spreadLeastVertices_51 rfl ⟨Nat.le_of_ble_eq_true rfl, Nat.le_of_ble_eq_true rfl, Nat.le_of_ble_eq_true rfl, Nat.le_of_ble_eq_true rfl⟩ ?_
        rw [va_up_s, bx_uu]
        refine g_aload_n X 0 d_D_spreadLeastVertices_54 rfl rfl ?_
        refine g_iconst X (v := nI 0) d_D_spreadLeastVertices_55 (by decide) ?_
        refine g_iload_n X 3 d_D_spreadLeastVertices_56 rfl rfl ?_
        refine g_lload X d_D_spreadLeastVertices_57 rfl ?_
        refine g_VN1 X v_D_39 (dl_m (by omega)) rfl (c_M_enter htr hinj (by omega) (by omega) (by omega)) d_D_spreadLeastVertices_59 rfl ⟨Nat.le_of_ble_eq_true rfl, Nat.le_of_ble_eq_true rfl, Nat.le_of_ble_eq_true rfl, Nat.le_of_ble_eq_true rfl⟩ ?_
        rw [va_up_s, bx_uu]
        refine g_iinc X d_D_spreadLeastVertices_62 rfl (nI_1 _) (by decide) ?_
        refine g_goto X 12 d_D_spreadLeastVertices_65 (by decide) ?_
        exact g_sb (ih (j + 1) _ (by omega) hx') ⟨rfl, rfl, rfl, rfl, trivial⟩
set_option maxHeartbeats 4000000 in
set_option maxRecDepth 100000 in
theorem l_D_spi {κ : KX} {δ : EX} {ad : Nat → Nat} (X : XO κ R_D b_D_spreadLeastVertices 6 none δ (RM 1) (Ar ad) []) (htr : (xl κ).stackTraces = false) (hinj : Inj ad) {M : DS} {a : Nat} (ha : a < 6) (h7 : (M a).1 ≤ 8) (h8 : (M a).2.1 ≤ 8) : ∀ n i S, i + n = (M a).1 → G κ 6 δ (Kn κ (Ar ad)) (Qe κ δ (Ar ad) (fun r w => r = .inr none ∧ w = dl δ ad (va_up M 6 (fl (spi (M a)) i n S)))) 0 0 (dl δ ad (va_up M 6 S)) [(2, .int (nI i)), (0, .ref (mq ad 6)), (1, .ref (mq ad a))] [] 2 := by
  intro n
  induction n with
  | zero =>
    intro i S hi
    refine g_iload_n X 2 d_D_spreadLeastVertices_2 rfl rfl ?_
    refine g_aload_n X 1 d_D_spreadLeastVertices_3 rfl rfl ?_
    refine r_rows X kf_D_58 d_D_spreadLeastVertices_4 (by omega) ?_
    rw [va_up6 ha]
    refine g_icmp_ge X 74 d_D_spreadLeastVertices_7 (by decide) (fun hc => ?_) (fun hc => ?_)
    · exact g_vret X KOk.n d_D_spreadLeastVertices_74 ⟨rfl, rfl⟩
    · exact absurd (nI_le (by omega) (by omega)) hc
  | succ n ih =>
    intro i S hi
    refine g_iload_n X 2 d_D_spreadLeastVertices_2 rfl rfl ?_
    refine g_aload_n X 1 d_D_spreadLeastVertices_3 rfl rfl ?_
    refine r_rows X kf_D_58 d_D_spreadLeastVertices_4 (by omega) ?_
    rw [va_up6 ha]
    refine g_icmp_ge X 74 d_D_spreadLeastVertices_7 (by decide) (fun hc => ?_) (fun hc => ?_)
    · exact absurd hc (nI_ge (by omega) (by omega))
    · clear hc
      refine g_iconst X (v := nI 0) d_D_spreadLeastVertices_10 (by decide) ?_
      refine g_istore_n X 3 d_D_spreadLeastVertices_11 rfl (by decide) ?_
      refine g_sb (l_D_spj X htr hinj ha (by omega) h8 (M a).2.1 0 S (by omega) ?_) ⟨rfl, rfl, rfl, rfl, trivial⟩
      refine g_iinc X d_D_spreadLeastVertices_68 rfl (nI_1 _) (by decide) ?_
      refine g_goto X 2 d_D_spreadLeastVertices_71 (by decide) ?_
      exact g_sb (ih (i + 1) (spi (M a) i S) (by omega)) ⟨rfl, rfl, rfl, trivial⟩
set_option maxHeartbeats 4000000 in
set_option maxRecDepth 100000 in
theorem c_D_sp {l : Launch} (htr : l.stackTraces = false) {δ : EX} {ad : Nat → Nat} {M : DS} (hinj : Inj ad) {a : Nat} (ha : a < 6) (h7 : (M a).1 ≤ 8) (h8 : (M a).2.1 ≤ 8) : CTN l y_D_spreadLeastVertices cw_D_spreadLeastVertices (RM 1) δ (Ar ad) (dl δ ad M) [.ref (mq ad 6), .ref (mq ad a)] none (dl δ ad (va_up M 6 (fl (spi (M a)) 0 (M a).1 (M 6)))) := by
  refine CT.ofN (lv := [(0, .ref (mq ad 6)), (1, .ref (mq ad a))]) (Or.inl ⟨rfl, rfl⟩) (by decide) htr rfl (Nat.le_of_ble_eq_true rfl) (fun κ hl X => ?_)
  subst hl
  refine g_iconst X (v := nI 0) d_D_spreadLeastVertices_0 (by decide) ?_
  refine g_istore_n X 2 d_D_spreadLeastVertices_1 rfl (by decide) ?_
  have e := l_D_spi X htr hinj ha h7 h8 (M a).1 0 (M 6) (by omega) (M := M)
  rw [up_id] at e
  exact g_sb e ⟨rfl, rfl, rfl, trivial⟩
end GD4
