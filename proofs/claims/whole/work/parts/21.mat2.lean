section MB
set_option maxHeartbeats 4000000 in
set_option maxRecDepth 100000 in
theorem c_M_isShaped {l : Launch} (htr : l.stackTraces = false) {δ : EX} {ad : Nat → Nat} {M : DS} {r x y : Nat} (hr : r < 7) (h1 : (M r).1 ≤ 8) (h2 : (M r).2.1 ≤ 8) (hx : x ≤ 8) (hy : y ≤ 8) : CTP l y_M_isShaped cw_M_isShaped (RM 0) δ (dl δ ad M) [.ref (mq ad r), .int (nI x), .int (nI y)] (.inr (some (.int (b2 (decide ((M r).1 = x ∧ (M r).2.1 = y)))))) := by
  refine CT.ofP (lv := [(0, .ref (mq ad r)), (1, .int (nI x)), (2, .int (nI y))]) (Or.inl ⟨rfl, rfl⟩) (by decide) htr rfl (Nat.le_of_ble_eq_true rfl) (fun κ hl X => ?_)
  subst hl
  refine g_aload_n X 0 d_M_isShaped_0 rfl rfl ?_
  refine r_rows X kf_M_9 d_M_isShaped_1 (by omega) ?_
  refine g_iload_n X 1 d_M_isShaped_4 rfl rfl ?_
  refine g_icmp_ne X 20 d_M_isShaped_5 (by decide) (fun hc => ?_) (fun hc => ?_)
  · refine g_iconst X (v := 0) d_M_isShaped_20 (by decide) ?_
    exact g_zret X KOk.p (by decide) d_M_isShaped_21 ⟨by rw [decide_eq_false (fun q => hc (by rw [q.1]))]; rfl, rfl⟩
  · have e1 : (M r).1 = x := (nI_eq (by omega) (by omega)).mp hc
    refine g_aload_n X 0 d_M_isShaped_8 rfl rfl ?_
    refine r_cols X kf_M_15 d_M_isShaped_9 (by omega) ?_
    refine g_iload_n X 2 d_M_isShaped_12 rfl rfl ?_
    refine g_icmp_ne X 20 d_M_isShaped_13 (by decide) (fun hd => ?_) (fun hd => ?_)
    · refine g_iconst X (v := 0) d_M_isShaped_20 (by decide) ?_
      exact g_zret X KOk.p (by decide) d_M_isShaped_21 ⟨by rw [decide_eq_false (fun q => hd (by rw [q.2]))]; rfl, rfl⟩
    · have e2 : (M r).2.1 = y := (nI_eq (by omega) (by omega)).mp hd
      refine g_iconst X (v := 1) d_M_isShaped_16 (by decide) ?_
      refine g_goto X 21 d_M_isShaped_17 (by decide) ?_
      exact g_zret X KOk.p (by decide) d_M_isShaped_21 ⟨by rw [decide_eq_true ⟨e1, e2⟩]; rfl, rfl⟩
theorem clr_step (f : Nat → Bool) (p : Nat) : va_up (fun q => if q < p then false else f q) p false = fun q => if q < p + 1 then false else f q := by
  funext q
  unfold va_up
  by_cases h : q = p
  · subst h
    simp
  · by_cases h2 : q < p
    · have : q < p + 1 := by omega
      simp [h, h2, this]
    · have : ¬ q < p + 1 := by omega
      simp [h, h2, this]
set_option maxHeartbeats 4000000 in
set_option maxRecDepth 100000 in
theorem l_M_clear {κ : KX} {δ : EX} {ad : Nat → Nat} (X : XO κ R_M b_M_clear 4 none δ (RM 0) (Ar ad) []) (hinj : Inj ad) {M : DS} {r x y : Nat} {v : Nat → Int64} {f : Nat → Bool} (hr : r < 7) : ∀ n p, p + n = 64 → G κ 4 δ (Kn κ (Ar ad)) (Qe κ δ (Ar ad) (fun r' w => r' = .inr none ∧ w = dl δ ad (va_up M r (x, y, v, fun q => if q < 64 then false else f q)))) 0 0 (dl δ ad (va_up M r (x, y, v, fun q => if q < p then false else f q))) [(3, .int (nI p)), (0, .ref (mq ad r))] [] 12 := by
  intro n
  induction n with
  | zero =>
    intro p hp
    obtain rfl : p = 64 := by omega
    refine g_iload_n X 3 d_M_clear_12 rfl rfl ?_
    refine g_aload_n X 0 d_M_clear_13 rfl rfl ?_
    refine r_fils X kf_M_22 d_M_clear_14 (by omega) ?_
    refine r_flen X (by omega) d_M_clear_17 ?_
    refine g_icmp_ge X 34 d_M_clear_18 (by decide) (fun hc => ?_) (fun hc => ?_)
    · exact g_vret X KOk.n d_M_clear_34 ⟨rfl, rfl⟩
    · exact absurd (nI_le (Nat.le_refl 64) (by decide)) hc
  | succ n ih =>
    intro p hp
    refine g_iload_n X 3 d_M_clear_12 rfl rfl ?_
    refine g_aload_n X 0 d_M_clear_13 rfl rfl ?_
    refine r_fils X kf_M_22 d_M_clear_14 (by omega) ?_
    refine r_flen X (by omega) d_M_clear_17 ?_
    refine g_icmp_ge X 34 d_M_clear_18 (by decide) (fun hc => ?_) (fun hc => ?_)
    · exact absurd hc (nI_ge (by omega) (by decide))
    · clear hc
      refine g_aload_n X 0 d_M_clear_21 rfl rfl ?_
      refine r_fils X kf_M_22 d_M_clear_22 (by omega) ?_
      refine g_iload_n X 3 d_M_clear_25 rfl rfl ?_
      refine g_iconst X (v := 0) d_M_clear_26 (by decide) ?_
      refine r_zast X hinj false rfl (by omega) hr (by decide) d_M_clear_27 ?_
      refine g_ew (ws' := dl δ ad (va_up M r (x, y, v, fun q => if q < p + 1 then false else f q))) (by simp only [bx_uu, va_up_s, clr_step]) ?_
      refine g_iinc X d_M_clear_28 rfl (nI_1 _) (by decide) ?_
      refine g_goto X 12 d_M_clear_31 (by decide) ?_
      exact g_sb (ih (p + 1) (by omega)) ⟨rfl, rfl, trivial⟩
set_option maxHeartbeats 4000000 in
set_option maxRecDepth 100000 in
theorem c_M_clear {l : Launch} (htr : l.stackTraces = false) {δ : EX} {ad : Nat → Nat} {M : DS} (hinj : Inj ad) {r x y : Nat} (hr : r < 7) : CTN l y_M_clear cw_M_clear (RM 0) δ (Ar ad) (dl δ ad M) [.ref (mq ad r), .int (nI x), .int (nI y)] none (dl δ ad (va_up M r (mClear (M r) x y))) := by
  refine CT.ofN (lv := [(0, .ref (mq ad r)), (1, .int (nI x)), (2, .int (nI y))]) (Or.inl ⟨rfl, rfl⟩) (by decide) htr rfl (Nat.le_of_ble_eq_true rfl) (fun κ hl X => ?_)
  subst hl
  refine g_aload_n X 0 d_M_clear_0 rfl rfl ?_
  refine g_iload_n X 1 d_M_clear_1 rfl rfl ?_
  refine r_putr X hinj kf_M_9 d_M_clear_2 hr ?_
  refine g_aload_n X 0 d_M_clear_5 rfl rfl ?_
  refine g_iload_n X 2 d_M_clear_6 rfl rfl ?_
  refine r_putc X hinj kf_M_15 d_M_clear_7 hr ?_
  refine g_iconst X (v := nI 0) d_M_clear_10 (by decide) ?_
  refine g_istore_n X 3 d_M_clear_11 rfl (by decide) ?_
  refine g_ew (ws' := dl δ ad (va_up M r (x, y, (M r).2.2.1, fun q => if q < 0 then false else (M r).2.2.2 q))) (by simp [bx_uu, va_up_s]) ?_
  exact g_sb (l_M_clear X hinj hr 64 0 rfl) ⟨rfl, rfl, trivial⟩
set_option maxHeartbeats 4000000 in
set_option maxRecDepth 100000 in
theorem l_M_count {κ : KX} {δ : EX} {ad : Nat → Nat} (X : XO κ R_M b_M_count 3 (some .int) δ (RM 0) NoA []) {M : DS} {r : Nat} (hr : r < 7) : ∀ n p, p + n = 64 → G κ 3 δ (Kp κ) (Qe κ δ NoA (fun r' w => r' = .inr (some (.int (nI (cnt (M r).2.2.2 64)))) ∧ w = dl δ ad M)) 0 0 (dl δ ad M) [(2, .int (nI p)), (1, .int (nI (cnt (M r).2.2.2 p))), (0, .ref (mq ad r))] [] 4 := by
  intro n
  induction n with
  | zero =>
    intro p hp
    obtain rfl : p = 64 := by omega
    refine g_iload_n X 2 d_M_count_4 rfl rfl ?_
    refine g_aload_n X 0 d_M_count_5 rfl rfl ?_
    refine r_fils X kf_M_22 d_M_count_6 (by omega) ?_
    refine r_flen X (by omega) d_M_count_9 ?_
    refine g_icmp_ge X 31 d_M_count_10 (by decide) (fun hc => ?_) (fun hc => ?_)
    · refine g_iload_n X 1 d_M_count_31 rfl rfl ?_
      exact g_iret X KOk.p d_M_count_32 ⟨rfl, rfl⟩
    · exact absurd (nI_le (Nat.le_refl 64) (by decide)) hc
  | succ n ih =>
    intro p hp
    refine g_iload_n X 2 d_M_count_4 rfl rfl ?_
    refine g_aload_n X 0 d_M_count_5 rfl rfl ?_
    refine r_fils X kf_M_22 d_M_count_6 (by omega) ?_
    refine r_flen X (by omega) d_M_count_9 ?_
    refine g_icmp_ge X 31 d_M_count_10 (by decide) (fun hc => ?_) (fun hc => ?_)
    · exact absurd hc (nI_ge (by omega) (by decide))
    · clear hc
      refine g_aload_n X 0 d_M_count_13 rfl rfl ?_
      refine r_fils X kf_M_22 d_M_count_14 (by omega) ?_
      refine g_iload_n X 2 d_M_count_17 rfl rfl ?_
      refine r_zald X rfl (by omega) (by omega) d_M_count_18 ?_
      refine g_if_eq X 25 d_M_count_19 (by decide) (fun hc => ?_) (fun hc => ?_)
      · have e : cnt (M r).2.2.2 (p + 1) = cnt (M r).2.2.2 p := by
          have h := b2_0.mp hc
          simp only [mHas] at h
          simp [cnt, h]
        refine g_iinc X d_M_count_25 rfl (nI_1 _) (by decide) ?_
        refine g_goto X 4 d_M_count_28 (by decide) ?_
        exact g_sb (ih (p + 1) (by omega)) ⟨rfl, by rw [e]; rfl, rfl, trivial⟩
      · have e : cnt (M r).2.2.2 (p + 1) = cnt (M r).2.2.2 p + 1 := by
          have h : mHas (M r) p = true := by
            cases h : mHas (M r) p
            · exact absurd (b2_0.mpr h) hc
            · rfl
          simp only [mHas] at h
          simp [cnt, h]
        refine g_iinc X d_M_count_22 rfl (nI_1 _) (by decide) ?_
        refine g_iinc X d_M_count_25 rfl (nI_1 _) (by decide) ?_
        refine g_goto X 4 d_M_count_28 (by decide) ?_
        exact g_sb (ih (p + 1) (by omega)) ⟨rfl, by rw [e]; rfl, rfl, trivial⟩
set_option maxHeartbeats 4000000 in
set_option maxRecDepth 100000 in
theorem c_M_count {l : Launch} (htr : l.stackTraces = false) {δ : EX} {ad : Nat → Nat} {M : DS} {r : Nat} (hr : r < 7) : CTP l y_M_count cw_M_count (RM 0) δ (dl δ ad M) [.ref (mq ad r)] (.inr (some (.int (nI (cnt (M r).2.2.2 64))))) := by
  refine CT.ofP (lv := [(0, .ref (mq ad r))]) (Or.inl ⟨rfl, rfl⟩) (by decide) htr rfl (Nat.le_of_ble_eq_true rfl) (fun κ hl X => ?_)
  subst hl
  refine g_iconst X (v := nI 0) d_M_count_0 (by decide) ?_
  refine g_istore_n X 1 d_M_count_1 rfl (by decide) ?_
  refine g_iconst X (v := nI 0) d_M_count_2 (by decide) ?_
  refine g_istore_n X 2 d_M_count_3 rfl (by decide) ?_
  exact g_sb (l_M_count X hr 64 0 rfl) ⟨rfl, rfl, rfl, trivial⟩
end MB
