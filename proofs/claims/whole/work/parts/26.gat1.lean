section GA
variable {κ : KX} {own : String} {cc : ByteArray} {nL : Nat} {rt : Option FieldType} {δ : EX} {rm : Room} {A0 : Nat → Prop} {ws ws' : va_W} {lv : List (Nat × Value)} {pc idx : Nat} {P' : OC → va_W → Prop} {y : MethodName} {rm2 : Room} {av : List Value} {cc2 : ByteArray} {nL2 : Nat} {rt2 : Option FieldType} {rest stk : List Value} {b : Nat} {v : Option Value}
theorem g_VN1 (X : XO κ own cc nL rt δ rm A0 []) (w : VW own idx y (.code y cc2 nL2 rt2) av.length) {q0 ci N : Nat} {fs : List Value} {T0 : u_T} (he : ws[q0]? = some (b, .inr (ci, fs))) (hc : vwCl[ci]? = some (y.cls, T0, N)) (hC : CTN (xl κ) y (.code y cc2 nL2 rt2) rm2 δ A0 ws (.ref b :: av) v ws') (hd : decode cc pc = .ok (.invokevirtual idx, 3)) (hst : stk = av.reverse ++ .ref b :: rest) (hrm : RmOk rm rm2 nL2 0 0 rest)
    (n : G κ nL δ (Kn κ A0) (Qe κ δ A0 P') 0 0 ws' lv (v.toList ++ rest) (pc + 3)) : G κ nL δ (Kn κ A0) (Qe κ δ A0 P') 0 0 ws lv stk pc :=
  g_VN X w he hc hC hd hst hrm (fun v' w' h => by obtain ⟨h1, rfl⟩ := h; cases h1; exact n) (fun z w h => by cases h.1)
theorem g_SN1 (X : XO κ own cc nL rt δ rm A0 []) (w : SW own idx y (.code y cc2 nL2 rt2) av.length) (hC : CTN (xl κ) y (.code y cc2 nL2 rt2) rm2 δ A0 ws av v ws') (hd : decode cc pc = .ok (.invokestatic idx, 3)) (hst : stk = av.reverse ++ rest) (hrm : RmOk rm rm2 nL2 0 0 rest)
    (n : G κ nL δ (Kn κ A0) (Qe κ δ A0 P') 0 0 ws' lv (v.toList ++ rest) (pc + 3)) : G κ nL δ (Kn κ A0) (Qe κ δ A0 P') 0 0 ws lv stk pc :=
  g_SN X w hC hd hst hrm (fun v' w' h => by obtain ⟨h1, rfl⟩ := h; cases h1; exact n) (fun z w h => by cases h.1)
/-- the spare matrix worked on: it becomes S, or a number was out of range -/
def PO (δ : EX) (ad : Nat → Nat) (M : DS) (o : Option Mx) : OC → va_W → Prop := fun r w => (∃ S, o = some S ∧ r = .inr none ∧ w = dl δ ad (va_up M 6 S)) ∨ (o = none ∧ r = .inl 4 ∧ ∃ S, w = dl δ ad (va_up M 6 S))
theorem up_id {α : Type} (f : Nat → α) (k : Nat) : va_up f k (f k) = f := by
  funext j
  unfold va_up
  split
  · rename_i h; rw [h]
  · rfl
theorem b2_t {b : Bool} (h : ¬ b2 b = 0) : b = true := by
  cases b
  · exact absurd (by decide) h
  · rfl
theorem va_up6 {M : DS} {S : Mx} {a : Nat} (h : a < 6) : va_up M 6 S a = M a := va_up_n _ (by omega)
/-- a call of a method that works on the spare matrix -/
theorem g_SPO (X : XO κ own cc nL rt δ rm A0 []) {ad : Nat → Nat} {M : DS} {S : Mx} {o : Option Mx} (w : SW own idx y (.code y cc2 nL2 rt2) av.length) (hC : CT (xl κ) y (.code y cc2 nL2 rt2) rm2 δ A0 (dl δ ad (va_up M 6 S)) av (PO δ ad (va_up M 6 S) o)) (hd : decode cc pc = .ok (.invokestatic idx, 3)) (hst : stk = av.reverse ++ rest) (hrm : RmOk rm rm2 nL2 0 0 rest)
    (n : ∀ S', o = some S' → G κ nL δ (Kn κ A0) (Qe κ δ A0 P') 0 0 (dl δ ad (va_up M 6 S')) lv rest (pc + 3)) (kt : o = none → ∀ S', P' (.inl 4) (dl δ ad (va_up M 6 S'))) : G κ nL δ (Kn κ A0) (Qe κ δ A0 P') 0 0 (dl δ ad (va_up M 6 S)) lv stk pc :=
  g_SN X w hC hd hst hrm (fun v' w' h => by
    rcases h with ⟨S', h1, h2, h3⟩ | ⟨-, h2, -⟩
    · cases h2
      rw [bx_uu] at h3
      subst h3
      exact n S' h1
    · cases h2) (fun z w h => by
    rcases h with ⟨S', -, h2, -⟩ | ⟨h1, h2, S', h3⟩
    · cases h2
    · cases h2
      rw [bx_uu] at h3
      subst h3
      exact kt h1 S')
set_option maxHeartbeats 4000000 in
set_option maxRecDepth 100000 in
theorem c_D_gather {l : Launch} (htr : l.stackTraces = false) {δ : EX} {ad : Nat → Nat} {M : DS} (hinj : Inj ad) {i j k : Nat} {v : Int64} (hi : i < 8) (hj : j < 8) (hk : k < 4) : CT l y_D_gather cw_D_gather (RM 3) δ (Ar ad) (dl δ ad M) [.ref (mq ad 6), .int (nI i), .int (nI j), .long v, .int (nI k)] (PO δ ad M (gaS k (M 6) (8 * i + j) v)) := by
  refine CT.ofN (lv := [(0, .ref (mq ad 6)), (1, .int (nI i)), (2, .int (nI j)), (3, .long v), (5, .int (nI k))]) (Or.inl ⟨rfl, rfl⟩) (by decide) htr rfl (Nat.le_of_ble_eq_true rfl) (fun κ hl X => ?_)
  subst hl
  refine g_aload_n X 0 d_D_gather_0 rfl rfl ?_
  refine g_iload_n X 1 d_D_gather_1 rfl rfl ?_
  refine g_iload_n X 2 d_D_gather_2 rfl rfl ?_
  refine g_aload_n X 0 d_D_gather_3 rfl rfl ?_
  refine g_iload_n X 1 d_D_gather_4 rfl rfl ?_
  refine g_iload_n X 2 d_D_gather_5 rfl rfl ?_
  refine g_VP X KOk.n v_D_43 (dl_m (by omega)) rfl (c_M_has htr (by omega) hi hj) d_D_gather_6 rfl ⟨Nat.le_of_ble_eq_true rfl, Nat.le_of_ble_eq_true rfl, Nat.le_of_ble_eq_true rfl, Nat.le_of_ble_eq_true rfl⟩ ?_
  refine g_if_eq X 27 d_D_gather_9 (by decide) (fun hc => ?_) (fun hc => ?_)
  · have h := b2_0.mp hc
    refine g_lload_n X 3 d_D_gather_27 rfl rfl ?_
    refine g_VN1 X v_D_39 (dl_m (by omega)) rfl (c_M_enter htr hinj (by omega) hi hj) d_D_gather_28 rfl ⟨Nat.le_of_ble_eq_true rfl, Nat.le_of_ble_eq_true rfl, Nat.le_of_ble_eq_true rfl, Nat.le_of_ble_eq_true rfl⟩ ?_
    exact g_vret X KOk.n d_D_gather_31 (Or.inl ⟨_, by simp [gaS, h], rfl, rfl⟩)
  · have h := b2_t hc
    refine g_iload X d_D_gather_12 rfl ?_
    refine g_aload_n X 0 d_D_gather_14 rfl rfl ?_
    refine g_iload_n X 1 d_D_gather_15 rfl rfl ?_
    refine g_iload_n X 2 d_D_gather_16 rfl rfl ?_
    refine g_VP X KOk.n v_D_54 (dl_m (by omega)) rfl (c_M_value htr (by omega) hi hj) d_D_gather_17 rfl ⟨Nat.le_of_ble_eq_true rfl, Nat.le_of_ble_eq_true rfl, Nat.le_of_ble_eq_true rfl, Nat.le_of_ble_eq_true rfl⟩ ?_
    refine g_lload_n X 3 d_D_gather_20 rfl rfl ?_
    have hC := c_D_sumOver htr (δ := δ) (ad := ad) (M := M) (x := mVal (M 6) (8 * i + j)) (y := v) hk
    cases hv : suS k (mVal (M 6) (8 * i + j)) v with
    | none =>
      rw [hv] at hC
      exact g_ST X KOk.n s_D_146 (hC) d_D_gather_21 rfl ⟨Nat.le_of_ble_eq_true rfl, Nat.le_of_ble_eq_true rfl, Nat.le_of_ble_eq_true rfl, Nat.le_of_ble_eq_true rfl⟩ (Or.inr ⟨by simp [gaS, h, hv], rfl, M 6, by rw [up_id]⟩)
    | some z =>
      rw [hv] at hC
      refine g_SP X KOk.n s_D_146 (hC) d_D_gather_21 rfl ⟨Nat.le_of_ble_eq_true rfl, Nat.le_of_ble_eq_true rfl, Nat.le_of_ble_eq_true rfl, Nat.le_of_ble_eq_true rfl⟩ ?_
      refine g_goto X 28 d_D_gather_24 (by decide) ?_
      refine g_VN1 X v_D_39 (dl_m (by omega)) rfl (c_M_enter htr hinj (by omega) hi hj) d_D_gather_28 rfl ⟨Nat.le_of_ble_eq_true rfl, Nat.le_of_ble_eq_true rfl, Nat.le_of_ble_eq_true rfl, Nat.le_of_ble_eq_true rfl⟩ ?_
      exact g_vret X KOk.n d_D_gather_31 (Or.inl ⟨_, by simp [gaS, h, hv], rfl, rfl⟩)
set_option maxHeartbeats 4000000 in
set_option maxRecDepth 100000 in
theorem l_D_gp {κ : KX} {δ : EX} {ad : Nat → Nat} (X : XO κ R_D b_D_gatherProducts 7 none δ (RM 4) (Ar ad) []) (htr : (xl κ).stackTraces = false) (hinj : Inj ad) {M : DS} {a b i j k : Nat} (ha : a < 6) (hb : b < 6) (hi : i < 8) (hj : j < 8) (hk : k < 4) (h8 : (M a).2.1 ≤ 8) : ∀ n t S, t + n = (M a).2.1 → G κ 7 δ (Kn κ (Ar ad)) (Qe κ δ (Ar ad) (PO δ ad M (fo (gpS k (M a) (M b) i j) t n S))) 0 0 (dl δ ad (va_up M 6 S)) [(6, .int (nI t)), (0, .ref (mq ad 6)), (1, .ref (mq ad a)), (2, .ref (mq ad b)), (3, .int (nI i)), (4, .int (nI j)), (5, .int (nI k))] [] 3 := by
  intro n
  induction n with
  | zero =>
    intro t S ht
    refine g_iload X d_D_gatherProducts_3 rfl ?_
    refine g_aload_n X 1 d_D_gatherProducts_5 rfl rfl ?_
    refine r_cols X kf_D_62 d_D_gatherProducts_6 (by omega) ?_
    rw [va_up6 ha]
    refine g_icmp_ge X 68 d_D_gatherProducts_9 (by decide) (fun hc => ?_) (fun hc => ?_)
    · exact g_vret X KOk.n d_D_gatherProducts_68 (Or.inl ⟨S, rfl, rfl, rfl⟩)
    · exact absurd (nI_le (by omega) (by omega)) hc
  | succ n ih =>
    intro t S ht
    refine g_iload X d_D_gatherProducts_3 rfl ?_
    refine g_aload_n X 1 d_D_gatherProducts_5 rfl rfl ?_
    refine r_cols X kf_D_62 d_D_gatherProducts_6 (by omega) ?_
    rw [va_up6 ha]
    refine g_icmp_ge X 68 d_D_gatherProducts_9 (by decide) (fun hc => ?_) (fun hc => ?_)
    · exact absurd hc (nI_ge (by omega) (by omega))
    · clear hc
      refine g_aload_n X 1 d_D_gatherProducts_12 rfl rfl ?_
      refine g_iload_n X 3 d_D_gatherProducts_13 rfl rfl ?_
      refine g_iload X d_D_gatherProducts_14 rfl ?_
      refine g_VP X KOk.n v_D_43 (dl_m (by omega)) rfl (c_M_has htr (by omega) hi (by omega)) d_D_gatherProducts_16 rfl ⟨Nat.le_of_ble_eq_true rfl, Nat.le_of_ble_eq_true rfl, Nat.le_of_ble_eq_true rfl, Nat.le_of_ble_eq_true rfl⟩ ?_
      rw [va_up6 ha]
      refine g_if_eq X 62 d_D_gatherProducts_19 (by decide) (fun hc => ?_) (fun hc => ?_)
      · have h := b2_0.mp hc
        have e : gpS k (M a) (M b) i j t S = some S := by simp [gpS, h]
        rw [fo_s e]
        refine g_iinc X d_D_gatherProducts_62 rfl (nI_1 _) (by decide) ?_
        refine g_goto X 3 d_D_gatherProducts_65 (by decide) ?_
        exact g_sb (ih (t + 1) S (by omega)) ⟨rfl, rfl, rfl, rfl, rfl, rfl, rfl, trivial⟩
      · have h := b2_t hc
        refine g_aload_n X 2 d_D_gatherProducts_22 rfl rfl ?_
        refine g_iload X d_D_gatherProducts_23 rfl ?_
        refine g_iload X d_D_gatherProducts_25 rfl ?_
        refine g_VP X KOk.n v_D_43 (dl_m (by omega)) rfl (c_M_has htr (by omega) (by omega) hj) d_D_gatherProducts_27 rfl ⟨Nat.le_of_ble_eq_true rfl, Nat.le_of_ble_eq_true rfl, Nat.le_of_ble_eq_true rfl, Nat.le_of_ble_eq_true rfl⟩ ?_
        rw [va_up6 hb]
        refine g_if_eq X 62 d_D_gatherProducts_30 (by decide) (fun hd => ?_) (fun hd => ?_)
        · have h2 := b2_0.mp hd
          have e : gpS k (M a) (M b) i j t S = some S := by simp [gpS, h2]
          rw [fo_s e]
          refine g_iinc X d_D_gatherProducts_62 rfl (nI_1 _) (by decide) ?_
          refine g_goto X 3 d_D_gatherProducts_65 (by decide) ?_
          exact g_sb (ih (t + 1) S (by omega)) ⟨rfl, rfl, rfl, rfl, rfl, rfl, rfl, trivial⟩
        · have h2 := b2_t hd
          refine g_aload_n X 0 d_D_gatherProducts_33 rfl rfl ?_
          refine g_iload_n X 3 d_D_gatherProducts_34 rfl rfl ?_
          refine g_iload X d_D_gatherProducts_35 rfl ?_
          refine g_iload X d_D_gatherProducts_37 rfl ?_
          refine g_aload_n X 1 d_D_gatherProducts_39 rfl rfl ?_
          refine g_iload_n X 3 d_D_gatherProducts_40 rfl rfl ?_
          refine g_iload X d_D_gatherProducts_41 rfl ?_
          refine g_VP X KOk.n v_D_54 (dl_m (by omega)) rfl (c_M_value htr (by omega) hi (by omega)) d_D_gatherProducts_43 rfl ⟨Nat.le_of_ble_eq_true rfl, Nat.le_of_ble_eq_true rfl, Nat.le_of_ble_eq_true rfl, Nat.le_of_ble_eq_true rfl⟩ ?_
          rw [va_up6 ha]
          refine g_aload_n X 2 d_D_gatherProducts_46 rfl rfl ?_
          refine g_iload X d_D_gatherProducts_47 rfl ?_
          refine g_iload X d_D_gatherProducts_49 rfl ?_
          refine g_VP X KOk.n v_D_54 (dl_m (by omega)) rfl (c_M_value htr (by omega) (by omega) hj) d_D_gatherProducts_51 rfl ⟨Nat.le_of_ble_eq_true rfl, Nat.le_of_ble_eq_true rfl, Nat.le_of_ble_eq_true rfl, Nat.le_of_ble_eq_true rfl⟩ ?_
          rw [va_up6 hb]
          have hC := c_D_productOver htr (δ := δ) (ad := ad) (M := va_up M 6 S) (x := mVal (M a) (8 * i + t)) (y := mVal (M b) (8 * t + j)) hk
          cases hv : prS k (mVal (M a) (8 * i + t)) (mVal (M b) (8 * t + j)) with
          | none =>
            rw [hv] at hC
            have e : gpS k (M a) (M b) i j t S = none := by simp [gpS, h, h2, hv]
            exact g_ST X KOk.n s_D_108 (hC) d_D_gatherProducts_54 rfl ⟨Nat.le_of_ble_eq_true rfl, Nat.le_of_ble_eq_true rfl, Nat.le_of_ble_eq_true rfl, Nat.le_of_ble_eq_true rfl⟩ (Or.inr ⟨fo_n e, rfl, S, rfl⟩)
          | some z =>
            rw [hv] at hC
            have e : gpS k (M a) (M b) i j t S = gaS k S (8 * i + j) z := by simp [gpS, h, h2, hv]
            refine g_SP X KOk.n s_D_108 (hC) d_D_gatherProducts_54 rfl ⟨Nat.le_of_ble_eq_true rfl, Nat.le_of_ble_eq_true rfl, Nat.le_of_ble_eq_true rfl, Nat.le_of_ble_eq_true rfl⟩ ?_
            refine g_iload X d_D_gatherProducts_57 rfl ?_
            refine g_SPO X s_D_119 (c_D_gather htr hinj hi hj hk) d_D_gatherProducts_59 rfl ⟨Nat.le_of_ble_eq_true rfl, Nat.le_of_ble_eq_true rfl, Nat.le_of_ble_eq_true rfl, Nat.le_of_ble_eq_true rfl⟩ (fun S' hS => ?_) (fun hS S' => ?_)
            · rw [va_up_s] at hS
              rw [fo_s (e.trans hS)]
              refine g_iinc X d_D_gatherProducts_62 rfl (nI_1 _) (by decide) ?_
              refine g_goto X 3 d_D_gatherProducts_65 (by decide) ?_
              exact g_sb (ih (t + 1) S' (by omega)) ⟨rfl, rfl, rfl, rfl, rfl, rfl, rfl, trivial⟩
            · rw [va_up_s] at hS
              exact Or.inr ⟨fo_n (e.trans hS), rfl, S', rfl⟩
set_option maxHeartbeats 4000000 in
set_option maxRecDepth 100000 in
theorem c_D_gp {l : Launch} (htr : l.stackTraces = false) {δ : EX} {ad : Nat → Nat} {M : DS} (hinj : Inj ad) {a b i j k : Nat} (ha : a < 6) (hb : b < 6) (hi : i < 8) (hj : j < 8) (hk : k < 4) (h8 : (M a).2.1 ≤ 8) : CT l y_D_gatherProducts cw_D_gatherProducts (RM 4) δ (Ar ad) (dl δ ad M) [.ref (mq ad 6), .ref (mq ad a), .ref (mq ad b), .int (nI i), .int (nI j), .int (nI k)] (PO δ ad M (fo (gpS k (M a) (M b) i j) 0 (M a).2.1 (M 6))) := by
  refine CT.ofN (lv := [(0, .ref (mq ad 6)), (1, .ref (mq ad a)), (2, .ref (mq ad b)), (3, .int (nI i)), (4, .int (nI j)), (5, .int (nI k))]) (Or.inl ⟨rfl, rfl⟩) (by decide) htr rfl (Nat.le_of_ble_eq_true rfl) (fun κ hl X => ?_)
  subst hl
  refine g_iconst X (v := nI 0) d_D_gatherProducts_0 (by decide) ?_
  refine g_istore X d_D_gatherProducts_1 (by decide) ?_
  have e := l_D_gp X htr hinj ha hb hi hj hk h8 (M a).2.1 0 (M 6) (by omega)
  rw [up_id] at e
  exact g_sb e ⟨rfl, rfl, rfl, rfl, rfl, rfl, rfl, trivial⟩
end GA
