section RB
set_option maxHeartbeats 4000000 in
set_option maxRecDepth 100000 in
theorem c_D_reqOps {l : Launch} (htr : l.stackTraces = false) {δ : EX} {ad : Nat → Nat} {M : DS} {r1 r2 r3 k : Nat} (h1 : r1 < 6) (h2 : r2 < 6) (h3 : r3 < 6) (hk : k < 4) : CTP l y_D_requireOperands cw_D_requireOperands (RM 1) δ (dl δ ad M) [.int (nI r1), .int (nI r2), .int (nI r3), .int (nI k)] (.inr none) := by
  refine CT.ofP (lv := [(0, .int (nI r1)), (1, .int (nI r2)), (2, .int (nI r3)), (3, .int (nI k))]) (Or.inl ⟨rfl, rfl⟩) (by decide) htr rfl (Nat.le_of_ble_eq_true rfl) (fun κ hl X => ?_)
  subst hl
  refine g_iload_n X 0 d_D_requireOperands_0 rfl rfl ?_
  refine g_SP X KOk.p s_D_20 (c_D_reqReg htr h1) d_D_requireOperands_1 rfl ⟨Nat.le_of_ble_eq_true rfl, Nat.le_of_ble_eq_true rfl, Nat.le_of_ble_eq_true rfl, Nat.le_of_ble_eq_true rfl⟩ ?_
  refine g_iload_n X 1 d_D_requireOperands_4 rfl rfl ?_
  refine g_SP X KOk.p s_D_20 (c_D_reqReg htr h2) d_D_requireOperands_5 rfl ⟨Nat.le_of_ble_eq_true rfl, Nat.le_of_ble_eq_true rfl, Nat.le_of_ble_eq_true rfl, Nat.le_of_ble_eq_true rfl⟩ ?_
  refine g_iload_n X 2 d_D_requireOperands_8 rfl rfl ?_
  refine g_SP X KOk.p s_D_20 (c_D_reqReg htr h3) d_D_requireOperands_9 rfl ⟨Nat.le_of_ble_eq_true rfl, Nat.le_of_ble_eq_true rfl, Nat.le_of_ble_eq_true rfl, Nat.le_of_ble_eq_true rfl⟩ ?_
  refine g_iload_n X 3 d_D_requireOperands_12 rfl rfl ?_
  refine g_SP X KOk.p s_D_116 (c_D_reqSem htr hk) d_D_requireOperands_13 rfl ⟨Nat.le_of_ble_eq_true rfl, Nat.le_of_ble_eq_true rfl, Nat.le_of_ble_eq_true rfl, Nat.le_of_ble_eq_true rfl⟩ ?_
  exact g_vret X KOk.p d_D_requireOperands_16 ⟨rfl, rfl⟩
set_option maxHeartbeats 4000000 in
set_option maxRecDepth 100000 in
theorem c_D_reqOps_x {l : Launch} (htr : l.stackTraces = false) {δ : EX} {ad : Nat → Nat} {M : DS} {x1 x2 x3 x4 : Int32} (h : bR x1 ∨ bR x2 ∨ bR x3 ∨ bH 3 x4) : CTP l y_D_requireOperands cw_D_requireOperands (RM 1) δ (dl δ ad M) [.int x1, .int x2, .int x3, .int x4] (.inl 1) := by
  refine CT.ofP (lv := [(0, .int x1), (1, .int x2), (2, .int x3), (3, .int x4)]) (Or.inl ⟨rfl, rfl⟩) (by decide) htr rfl (Nat.le_of_ble_eq_true rfl) (fun κ hl X => ?_)
  subst hl
  refine g_iload_n X 0 d_D_requireOperands_0 rfl rfl ?_
  rcases bR_or x1 with q | ⟨r1, h1, rfl⟩
  · exact g_ST X KOk.p s_D_20 (c_D_reqReg_x htr q) d_D_requireOperands_1 rfl ⟨Nat.le_of_ble_eq_true rfl, Nat.le_of_ble_eq_true rfl, Nat.le_of_ble_eq_true rfl, Nat.le_of_ble_eq_true rfl⟩ ⟨rfl, rfl⟩
  refine g_SP X KOk.p s_D_20 (c_D_reqReg htr h1) d_D_requireOperands_1 rfl ⟨Nat.le_of_ble_eq_true rfl, Nat.le_of_ble_eq_true rfl, Nat.le_of_ble_eq_true rfl, Nat.le_of_ble_eq_true rfl⟩ ?_
  refine g_iload_n X 1 d_D_requireOperands_4 rfl rfl ?_
  rcases bR_or x2 with q | ⟨r2, h2, rfl⟩
  · exact g_ST X KOk.p s_D_20 (c_D_reqReg_x htr q) d_D_requireOperands_5 rfl ⟨Nat.le_of_ble_eq_true rfl, Nat.le_of_ble_eq_true rfl, Nat.le_of_ble_eq_true rfl, Nat.le_of_ble_eq_true rfl⟩ ⟨rfl, rfl⟩
  refine g_SP X KOk.p s_D_20 (c_D_reqReg htr h2) d_D_requireOperands_5 rfl ⟨Nat.le_of_ble_eq_true rfl, Nat.le_of_ble_eq_true rfl, Nat.le_of_ble_eq_true rfl, Nat.le_of_ble_eq_true rfl⟩ ?_
  refine g_iload_n X 2 d_D_requireOperands_8 rfl rfl ?_
  rcases bR_or x3 with q | ⟨r3, h3, rfl⟩
  · exact g_ST X KOk.p s_D_20 (c_D_reqReg_x htr q) d_D_requireOperands_9 rfl ⟨Nat.le_of_ble_eq_true rfl, Nat.le_of_ble_eq_true rfl, Nat.le_of_ble_eq_true rfl, Nat.le_of_ble_eq_true rfl⟩ ⟨rfl, rfl⟩
  refine g_SP X KOk.p s_D_20 (c_D_reqReg htr h3) d_D_requireOperands_9 rfl ⟨Nat.le_of_ble_eq_true rfl, Nat.le_of_ble_eq_true rfl, Nat.le_of_ble_eq_true rfl, Nat.le_of_ble_eq_true rfl⟩ ?_
  refine g_iload_n X 3 d_D_requireOperands_12 rfl rfl ?_
  rcases h with h | h | h | h
  · exact absurd h (bR_no h1)
  · exact absurd h (bR_no h2)
  · exact absurd h (bR_no h3)
  · exact g_ST X KOk.p s_D_116 (c_D_reqSem_x htr h) d_D_requireOperands_13 rfl ⟨Nat.le_of_ble_eq_true rfl, Nat.le_of_ble_eq_true rfl, Nat.le_of_ble_eq_true rfl, Nat.le_of_ble_eq_true rfl⟩ ⟨rfl, rfl⟩
set_option maxHeartbeats 4000000 in
set_option maxRecDepth 100000 in
theorem c_D_reqMask {l : Launch} (htr : l.stackTraces = false) {δ : EX} {ad : Nat → Nat} {M : DS} {x : Int32} (h : x = -1 ∨ ∃ r, r < 6 ∧ x = nI r) : CTP l y_D_requireMask cw_D_requireMask (RM 1) δ (dl δ ad M) [.int x] (.inr none) := by
  refine CT.ofP (lv := [(0, .int x)]) (Or.inl ⟨rfl, rfl⟩) (by decide) htr rfl (Nat.le_of_ble_eq_true rfl) (fun κ hl X => ?_)
  subst hl
  refine g_iload_n X 0 d_D_requireMask_0 rfl rfl ?_
  refine g_iconst X (v := (-1)) d_D_requireMask_1 (by decide) ?_
  refine g_icmp_eq X 9 d_D_requireMask_2 (by decide) (fun hc => ?_) (fun hc => ?_)
  · exact g_vret X KOk.p d_D_requireMask_9 ⟨rfl, rfl⟩
  · rcases h with h | ⟨r, h1, rfl⟩
    · exact absurd h hc
    · refine g_iload_n X 0 d_D_requireMask_5 rfl rfl ?_
      refine g_SP X KOk.p s_D_20 (c_D_reqReg htr h1) d_D_requireMask_6 rfl ⟨Nat.le_of_ble_eq_true rfl, Nat.le_of_ble_eq_true rfl, Nat.le_of_ble_eq_true rfl, Nat.le_of_ble_eq_true rfl⟩ ?_
      exact g_vret X KOk.p d_D_requireMask_9 ⟨rfl, rfl⟩
set_option maxHeartbeats 4000000 in
set_option maxRecDepth 100000 in
theorem c_D_reqMask_x {l : Launch} (htr : l.stackTraces = false) {δ : EX} {ad : Nat → Nat} {M : DS} {x : Int32} (h : ¬ x = -1) (h2 : bR x) : CTP l y_D_requireMask cw_D_requireMask (RM 1) δ (dl δ ad M) [.int x] (.inl 1) := by
  refine CT.ofP (lv := [(0, .int x)]) (Or.inl ⟨rfl, rfl⟩) (by decide) htr rfl (Nat.le_of_ble_eq_true rfl) (fun κ hl X => ?_)
  subst hl
  refine g_iload_n X 0 d_D_requireMask_0 rfl rfl ?_
  refine g_iconst X (v := (-1)) d_D_requireMask_1 (by decide) ?_
  refine g_icmp_eq X 9 d_D_requireMask_2 (by decide) (fun hc => ?_) (fun hc => ?_)
  · exact absurd hc h
  · refine g_iload_n X 0 d_D_requireMask_5 rfl rfl ?_
    exact g_ST X KOk.p s_D_20 (c_D_reqReg_x htr h2) d_D_requireMask_6 rfl ⟨Nat.le_of_ble_eq_true rfl, Nat.le_of_ble_eq_true rfl, Nat.le_of_ble_eq_true rfl, Nat.le_of_ble_eq_true rfl⟩ ⟨rfl, rfl⟩
set_option maxHeartbeats 4000000 in
set_option maxRecDepth 100000 in
theorem c_D_reqPl {l : Launch} (htr : l.stackTraces = false) {δ : EX} {ad : Nat → Nat} {M : DS} {r i j : Nat} (hr : r < 6) (hi : i < (M r).1) (hj : j < (M r).2.1) (h1 : (M r).1 ≤ 8) (h2 : (M r).2.1 ≤ 8) : CTP l y_D_requirePlace cw_D_requirePlace (RM 1) δ (dl δ ad M) [.ref (ad 0), .int (nI r), .int (nI i), .int (nI j)] (.inr none) := by
  refine CT.ofP (lv := [(0, .ref (ad 0)), (1, .int (nI r)), (2, .int (nI i)), (3, .int (nI j))]) (Or.inl ⟨rfl, rfl⟩) (by decide) htr rfl (Nat.le_of_ble_eq_true rfl) (fun κ hl X => ?_)
  subst hl
  refine g_iload_n X 1 d_D_requirePlace_0 rfl rfl ?_
  refine g_SP X KOk.p s_D_20 (c_D_reqReg htr hr) d_D_requirePlace_1 rfl ⟨Nat.le_of_ble_eq_true rfl, Nat.le_of_ble_eq_true rfl, Nat.le_of_ble_eq_true rfl, Nat.le_of_ble_eq_true rfl⟩ ?_
  refine g_iload_n X 2 d_D_requirePlace_4 rfl rfl ?_
  refine g_if_lt X 38 d_D_requirePlace_5 (by decide) (fun hc => ?_) (fun hc => ?_)
  · exact absurd hc (nI_pos (by omega))
  clear hc
  refine g_iload_n X 2 d_D_requirePlace_8 rfl rfl ?_
  refine g_aload_n X 0 d_D_requirePlace_9 rfl rfl ?_
  refine r_regs X d_D_requirePlace_10 ?_
  refine g_iload_n X 1 d_D_requirePlace_13 rfl rfl ?_
  refine r_aald X rfl (by omega) d_D_requirePlace_14 ?_
  refine r_rows X kf_D_58 d_D_requirePlace_15 (by omega) ?_
  refine g_icmp_ge X 38 d_D_requirePlace_18 (by decide) (fun hc => ?_) (fun hc => ?_)
  · exact absurd hc (nI_ge hi (by omega))
  clear hc
  refine g_iload_n X 3 d_D_requirePlace_21 rfl rfl ?_
  refine g_if_lt X 38 d_D_requirePlace_22 (by decide) (fun hc => ?_) (fun hc => ?_)
  · exact absurd hc (nI_pos (by omega))
  clear hc
  refine g_iload_n X 3 d_D_requirePlace_25 rfl rfl ?_
  refine g_aload_n X 0 d_D_requirePlace_26 rfl rfl ?_
  refine r_regs X d_D_requirePlace_27 ?_
  refine g_iload_n X 1 d_D_requirePlace_30 rfl rfl ?_
  refine r_aald X rfl (by omega) d_D_requirePlace_31 ?_
  refine r_cols X kf_D_62 d_D_requirePlace_32 (by omega) ?_
  refine g_icmp_lt X 48 d_D_requirePlace_35 (by decide) (fun hc => ?_) (fun hc => ?_)
  · exact g_vret X KOk.p d_D_requirePlace_48 ⟨rfl, rfl⟩
  · exact absurd (nI_lt hj (by omega)) hc
set_option maxHeartbeats 4000000 in
set_option maxRecDepth 100000 in
theorem c_D_reqPl_x1 {l : Launch} (htr : l.stackTraces = false) {δ : EX} {ad : Nat → Nat} {M : DS} {x i j : Int32} (hx : bR x) : CTP l y_D_requirePlace cw_D_requirePlace (RM 1) δ (dl δ ad M) [.ref (ad 0), .int x, .int i, .int j] (.inl 1) := by
  refine CT.ofP (lv := [(0, .ref (ad 0)), (1, .int x), (2, .int i), (3, .int j)]) (Or.inl ⟨rfl, rfl⟩) (by decide) htr rfl (Nat.le_of_ble_eq_true rfl) (fun κ hl X => ?_)
  subst hl
  refine g_iload_n X 1 d_D_requirePlace_0 rfl rfl ?_
  exact g_ST X KOk.p s_D_20 (c_D_reqReg_x htr hx) d_D_requirePlace_1 rfl ⟨Nat.le_of_ble_eq_true rfl, Nat.le_of_ble_eq_true rfl, Nat.le_of_ble_eq_true rfl, Nat.le_of_ble_eq_true rfl⟩ ⟨rfl, rfl⟩
set_option maxHeartbeats 4000000 in
set_option maxRecDepth 100000 in
theorem c_D_reqPl_x2 {l : Launch} (htr : l.stackTraces = false) {δ : EX} {ad : Nat → Nat} {M : DS} {r : Nat} {i j : Int32} (hr : r < 6) (h : i < 0 ∨ nI (M r).1 ≤ i ∨ j < 0 ∨ nI (M r).2.1 ≤ j) : CTP l y_D_requirePlace cw_D_requirePlace (RM 1) δ (dl δ ad M) [.ref (ad 0), .int (nI r), .int i, .int j] (.inl 1) := by
  refine CT.ofP (lv := [(0, .ref (ad 0)), (1, .int (nI r)), (2, .int i), (3, .int j)]) (Or.inl ⟨rfl, rfl⟩) (by decide) htr rfl (Nat.le_of_ble_eq_true rfl) (fun κ hl X => ?_)
  subst hl
  refine g_iload_n X 1 d_D_requirePlace_0 rfl rfl ?_
  refine g_SP X KOk.p s_D_20 (c_D_reqReg htr hr) d_D_requirePlace_1 rfl ⟨Nat.le_of_ble_eq_true rfl, Nat.le_of_ble_eq_true rfl, Nat.le_of_ble_eq_true rfl, Nat.le_of_ble_eq_true rfl⟩ ?_
  refine g_iload_n X 2 d_D_requirePlace_4 rfl rfl ?_
  refine g_if_lt X 38 d_D_requirePlace_5 (by decide) (fun hc => ?_) (fun hc => ?_)
  · exact x_1 X kr_D_200 d_D_requirePlace_38 d_D_requirePlace_41 d_D_requirePlace_42 d_D_requirePlace_44 d_D_requirePlace_47 ⟨Nat.le_of_ble_eq_true rfl, Nat.le_of_ble_eq_true rfl, Nat.le_of_ble_eq_true rfl, Nat.le_of_ble_eq_true rfl⟩ ⟨rfl, rfl⟩
  refine g_iload_n X 2 d_D_requirePlace_8 rfl rfl ?_
  refine g_aload_n X 0 d_D_requirePlace_9 rfl rfl ?_
  refine r_regs X d_D_requirePlace_10 ?_
  refine g_iload_n X 1 d_D_requirePlace_13 rfl rfl ?_
  refine r_aald X rfl (by omega) d_D_requirePlace_14 ?_
  refine r_rows X kf_D_58 d_D_requirePlace_15 (by omega) ?_
  refine g_icmp_ge X 38 d_D_requirePlace_18 (by decide) (fun hd => ?_) (fun hd => ?_)
  · exact x_1 X kr_D_200 d_D_requirePlace_38 d_D_requirePlace_41 d_D_requirePlace_42 d_D_requirePlace_44 d_D_requirePlace_47 ⟨Nat.le_of_ble_eq_true rfl, Nat.le_of_ble_eq_true rfl, Nat.le_of_ble_eq_true rfl, Nat.le_of_ble_eq_true rfl⟩ ⟨rfl, rfl⟩
  refine g_iload_n X 3 d_D_requirePlace_21 rfl rfl ?_
  refine g_if_lt X 38 d_D_requirePlace_22 (by decide) (fun he => ?_) (fun he => ?_)
  · exact x_1 X kr_D_200 d_D_requirePlace_38 d_D_requirePlace_41 d_D_requirePlace_42 d_D_requirePlace_44 d_D_requirePlace_47 ⟨Nat.le_of_ble_eq_true rfl, Nat.le_of_ble_eq_true rfl, Nat.le_of_ble_eq_true rfl, Nat.le_of_ble_eq_true rfl⟩ ⟨rfl, rfl⟩
  refine g_iload_n X 3 d_D_requirePlace_25 rfl rfl ?_
  refine g_aload_n X 0 d_D_requirePlace_26 rfl rfl ?_
  refine r_regs X d_D_requirePlace_27 ?_
  refine g_iload_n X 1 d_D_requirePlace_30 rfl rfl ?_
  refine r_aald X rfl (by omega) d_D_requirePlace_31 ?_
  refine r_cols X kf_D_62 d_D_requirePlace_32 (by omega) ?_
  refine g_icmp_lt X 48 d_D_requirePlace_35 (by decide) (fun hf => ?_) (fun hf => ?_)
  · rcases h with h | h | h | h
    · exact absurd h hc
    · exact absurd h hd
    · exact absurd h he
    · exact absurd hf (Int32.not_lt.mpr h)
  · exact x_1 X kr_D_200 d_D_requirePlace_38 d_D_requirePlace_41 d_D_requirePlace_42 d_D_requirePlace_44 d_D_requirePlace_47 ⟨Nat.le_of_ble_eq_true rfl, Nat.le_of_ble_eq_true rfl, Nat.le_of_ble_eq_true rfl, Nat.le_of_ble_eq_true rfl⟩ ⟨rfl, rfl⟩
set_option maxHeartbeats 4000000 in
set_option maxRecDepth 100000 in
theorem c_D_reqSame {l : Launch} (htr : l.stackTraces = false) {δ : EX} {ad : Nat → Nat} {M : DS} {a b : Nat} (ha : a < 6) (hb : b < 6) (hM : ∀ k, k < 6 → (M k).1 ≤ 8 ∧ (M k).2.1 ≤ 8) (h : (M a).1 = (M b).1 ∧ (M a).2.1 = (M b).2.1) : CTP l y_D_requireSameShape cw_D_requireSameShape (RM 1) δ (dl δ ad M) [.ref (ad 0), .int (nI a), .int (nI b)] (.inr none) := by
  refine CT.ofP (lv := [(0, .ref (ad 0)), (1, .int (nI a)), (2, .int (nI b))]) (Or.inl ⟨rfl, rfl⟩) (by decide) htr rfl (Nat.le_of_ble_eq_true rfl) (fun κ hl X => ?_)
  subst hl
  refine g_aload_n X 0 d_D_requireSameShape_0 rfl rfl ?_
  refine r_regs X d_D_requireSameShape_1 ?_
  refine g_iload_n X 1 d_D_requireSameShape_4 rfl rfl ?_
  refine r_aald X rfl (by omega) d_D_requireSameShape_5 ?_
  refine g_aload_n X 0 d_D_requireSameShape_6 rfl rfl ?_
  refine r_regs X d_D_requireSameShape_7 ?_
  refine g_iload_n X 2 d_D_requireSameShape_10 rfl rfl ?_
  refine r_aald X rfl (by omega) d_D_requireSameShape_11 ?_
  refine r_rows X kf_D_58 d_D_requireSameShape_12 (by omega) ?_
  refine g_aload_n X 0 d_D_requireSameShape_15 rfl rfl ?_
  refine r_regs X d_D_requireSameShape_16 ?_
  refine g_iload_n X 2 d_D_requireSameShape_19 rfl rfl ?_
  refine r_aald X rfl (by omega) d_D_requireSameShape_20 ?_
  refine r_cols X kf_D_62 d_D_requireSameShape_21 (by omega) ?_
  refine g_VP X KOk.p v_D_82 (dl_m (by omega)) rfl (c_M_isShaped htr (by omega) (hM a (by omega)).1 (hM a (by omega)).2 (hM b (by omega)).1 (hM b (by omega)).2) d_D_requireSameShape_24 rfl ⟨Nat.le_of_ble_eq_true rfl, Nat.le_of_ble_eq_true rfl, Nat.le_of_ble_eq_true rfl, Nat.le_of_ble_eq_true rfl⟩ ?_
  refine g_SP X KOk.p s_D_79 (c_D_reqFit htr (decide_eq_true h)) d_D_requireSameShape_27 rfl ⟨Nat.le_of_ble_eq_true rfl, Nat.le_of_ble_eq_true rfl, Nat.le_of_ble_eq_true rfl, Nat.le_of_ble_eq_true rfl⟩ ?_
  exact g_vret X KOk.p d_D_requireSameShape_30 ⟨rfl, rfl⟩
set_option maxHeartbeats 4000000 in
set_option maxRecDepth 100000 in
theorem c_D_reqSame_x {l : Launch} (htr : l.stackTraces = false) {δ : EX} {ad : Nat → Nat} {M : DS} {a b : Nat} (ha : a < 6) (hb : b < 6) (hM : ∀ k, k < 6 → (M k).1 ≤ 8 ∧ (M k).2.1 ≤ 8) (h : ¬ ((M a).1 = (M b).1 ∧ (M a).2.1 = (M b).2.1)) : CTP l y_D_requireSameShape cw_D_requireSameShape (RM 1) δ (dl δ ad M) [.ref (ad 0), .int (nI a), .int (nI b)] (.inl 2) := by
  refine CT.ofP (lv := [(0, .ref (ad 0)), (1, .int (nI a)), (2, .int (nI b))]) (Or.inl ⟨rfl, rfl⟩) (by decide) htr rfl (Nat.le_of_ble_eq_true rfl) (fun κ hl X => ?_)
  subst hl
  refine g_aload_n X 0 d_D_requireSameShape_0 rfl rfl ?_
  refine r_regs X d_D_requireSameShape_1 ?_
  refine g_iload_n X 1 d_D_requireSameShape_4 rfl rfl ?_
  refine r_aald X rfl (by omega) d_D_requireSameShape_5 ?_
  refine g_aload_n X 0 d_D_requireSameShape_6 rfl rfl ?_
  refine r_regs X d_D_requireSameShape_7 ?_
  refine g_iload_n X 2 d_D_requireSameShape_10 rfl rfl ?_
  refine r_aald X rfl (by omega) d_D_requireSameShape_11 ?_
  refine r_rows X kf_D_58 d_D_requireSameShape_12 (by omega) ?_
  refine g_aload_n X 0 d_D_requireSameShape_15 rfl rfl ?_
  refine r_regs X d_D_requireSameShape_16 ?_
  refine g_iload_n X 2 d_D_requireSameShape_19 rfl rfl ?_
  refine r_aald X rfl (by omega) d_D_requireSameShape_20 ?_
  refine r_cols X kf_D_62 d_D_requireSameShape_21 (by omega) ?_
  refine g_VP X KOk.p v_D_82 (dl_m (by omega)) rfl (c_M_isShaped htr (by omega) (hM a (by omega)).1 (hM a (by omega)).2 (hM b (by omega)).1 (hM b (by omega)).2) d_D_requireSameShape_24 rfl ⟨Nat.le_of_ble_eq_true rfl, Nat.le_of_ble_eq_true rfl, Nat.le_of_ble_eq_true rfl, Nat.le_of_ble_eq_true rfl⟩ ?_
  exact g_ST X KOk.p s_D_79 (c_D_reqFit_x htr (decide_eq_false h)) d_D_requireSameShape_27 rfl ⟨Nat.le_of_ble_eq_true rfl, Nat.le_of_ble_eq_true rfl, Nat.le_of_ble_eq_true rfl, Nat.le_of_ble_eq_true rfl⟩ ⟨rfl, rfl⟩
set_option maxHeartbeats 4000000 in
set_option maxRecDepth 100000 in
theorem c_D_reqGr_x1 {l : Launch} (htr : l.stackTraces = false) {δ : EX} {ad : Nat → Nat} {M : DS} {x : Int32} (hx : bR x) : CTP l y_D_requireGraph cw_D_requireGraph (RM 1) δ (dl δ ad M) [.ref (ad 0), .int x] (.inl 1) := by
  refine CT.ofP (lv := [(0, .ref (ad 0)), (1, .int x)]) (Or.inl ⟨rfl, rfl⟩) (by decide) htr rfl (Nat.le_of_ble_eq_true rfl) (fun κ hl X => ?_)
  subst hl
  refine g_iload_n X 1 d_D_requireGraph_0 rfl rfl ?_
  exact g_ST X KOk.p s_D_20 (c_D_reqReg_x htr hx) d_D_requireGraph_1 rfl ⟨Nat.le_of_ble_eq_true rfl, Nat.le_of_ble_eq_true rfl, Nat.le_of_ble_eq_true rfl, Nat.le_of_ble_eq_true rfl⟩ ⟨rfl, rfl⟩
set_option maxHeartbeats 4000000 in
set_option maxRecDepth 100000 in
theorem c_D_reqGr {l : Launch} (htr : l.stackTraces = false) {δ : EX} {ad : Nat → Nat} {M : DS} {a : Nat} (ha : a < 6) (hM : ∀ k, k < 6 → (M k).1 ≤ 8 ∧ (M k).2.1 ≤ 8) (h : (M a).1 = (M a).2.1) : CTP l y_D_requireGraph cw_D_requireGraph (RM 1) δ (dl δ ad M) [.ref (ad 0), .int (nI a)] (.inr none) := by
  refine CT.ofP (lv := [(0, .ref (ad 0)), (1, .int (nI a))]) (Or.inl ⟨rfl, rfl⟩) (by decide) htr rfl (Nat.le_of_ble_eq_true rfl) (fun κ hl X => ?_)
  subst hl
  refine g_iload_n X 1 d_D_requireGraph_0 rfl rfl ?_
  refine g_SP X KOk.p s_D_20 (c_D_reqReg htr ha) d_D_requireGraph_1 rfl ⟨Nat.le_of_ble_eq_true rfl, Nat.le_of_ble_eq_true rfl, Nat.le_of_ble_eq_true rfl, Nat.le_of_ble_eq_true rfl⟩ ?_
  refine g_aload_n X 0 d_D_requireGraph_4 rfl rfl ?_
  refine r_regs X d_D_requireGraph_5 ?_
  refine g_iload_n X 1 d_D_requireGraph_8 rfl rfl ?_
  refine r_aald X rfl (by omega) d_D_requireGraph_9 ?_
  refine r_rows X kf_D_58 d_D_requireGraph_10 (by omega) ?_
  refine g_aload_n X 0 d_D_requireGraph_13 rfl rfl ?_
  refine r_regs X d_D_requireGraph_14 ?_
  refine g_iload_n X 1 d_D_requireGraph_17 rfl rfl ?_
  refine r_aald X rfl (by omega) d_D_requireGraph_18 ?_
  refine r_cols X kf_D_62 d_D_requireGraph_19 (by omega) ?_
  refine g_icmp_ne X 29 d_D_requireGraph_22 (by decide) (fun hc => ?_) (fun hc => ?_)
  · exact absurd (by rw [h]) hc
  · refine g_iconst X (v := 1) d_D_requireGraph_25 (by decide) ?_
    refine g_goto X 30 d_D_requireGraph_26 (by decide) ?_
    refine g_SP X KOk.p s_D_79 (c_D_reqFit htr (b := true) rfl) d_D_requireGraph_30 rfl ⟨Nat.le_of_ble_eq_true rfl, Nat.le_of_ble_eq_true rfl, Nat.le_of_ble_eq_true rfl, Nat.le_of_ble_eq_true rfl⟩ ?_
    exact g_vret X KOk.p d_D_requireGraph_33 ⟨rfl, rfl⟩
set_option maxHeartbeats 4000000 in
set_option maxRecDepth 100000 in
theorem c_D_reqGr_x2 {l : Launch} (htr : l.stackTraces = false) {δ : EX} {ad : Nat → Nat} {M : DS} {a : Nat} (ha : a < 6) (hM : ∀ k, k < 6 → (M k).1 ≤ 8 ∧ (M k).2.1 ≤ 8) (h : ¬ (M a).1 = (M a).2.1) : CTP l y_D_requireGraph cw_D_requireGraph (RM 1) δ (dl δ ad M) [.ref (ad 0), .int (nI a)] (.inl 2) := by
  refine CT.ofP (lv := [(0, .ref (ad 0)), (1, .int (nI a))]) (Or.inl ⟨rfl, rfl⟩) (by decide) htr rfl (Nat.le_of_ble_eq_true rfl) (fun κ hl X => ?_)
  subst hl
  refine g_iload_n X 1 d_D_requireGraph_0 rfl rfl ?_
  refine g_SP X KOk.p s_D_20 (c_D_reqReg htr ha) d_D_requireGraph_1 rfl ⟨Nat.le_of_ble_eq_true rfl, Nat.le_of_ble_eq_true rfl, Nat.le_of_ble_eq_true rfl, Nat.le_of_ble_eq_true rfl⟩ ?_
  refine g_aload_n X 0 d_D_requireGraph_4 rfl rfl ?_
  refine r_regs X d_D_requireGraph_5 ?_
  refine g_iload_n X 1 d_D_requireGraph_8 rfl rfl ?_
  refine r_aald X rfl (by omega) d_D_requireGraph_9 ?_
  refine r_rows X kf_D_58 d_D_requireGraph_10 (by omega) ?_
  refine g_aload_n X 0 d_D_requireGraph_13 rfl rfl ?_
  refine r_regs X d_D_requireGraph_14 ?_
  refine g_iload_n X 1 d_D_requireGraph_17 rfl rfl ?_
  refine r_aald X rfl (by omega) d_D_requireGraph_18 ?_
  refine r_cols X kf_D_62 d_D_requireGraph_19 (by omega) ?_
  refine g_icmp_ne X 29 d_D_requireGraph_22 (by decide) (fun hc => ?_) (fun hc => ?_)
  · refine g_iconst X (v := 0) d_D_requireGraph_29 (by decide) ?_
    exact g_ST X KOk.p s_D_79 (c_D_reqFit_x htr (b := false) rfl) d_D_requireGraph_30 rfl ⟨Nat.le_of_ble_eq_true rfl, Nat.le_of_ble_eq_true rfl, Nat.le_of_ble_eq_true rfl, Nat.le_of_ble_eq_true rfl⟩ ⟨rfl, rfl⟩
  · exact absurd ((nI_eq (by have := hM a (by omega); omega) (by have := hM a (by omega); omega)).mp hc) h
set_option maxHeartbeats 4000000 in
set_option maxRecDepth 100000 in
theorem c_D_reqVe {l : Launch} (htr : l.stackTraces = false) {δ : EX} {ad : Nat → Nat} {M : DS} {a v : Nat} (ha : a < 7) (hv : v < (M a).1) (h8 : (M a).1 ≤ 8) : CTP l y_D_requireVertex cw_D_requireVertex (RM 0) δ (dl δ ad M) [.ref (mq ad a), .int (nI v)] (.inr none) := by
  refine CT.ofP (lv := [(0, .ref (mq ad a)), (1, .int (nI v))]) (Or.inl ⟨rfl, rfl⟩) (by decide) htr rfl (Nat.le_of_ble_eq_true rfl) (fun κ hl X => ?_)
  subst hl
  refine g_iload_n X 1 d_D_requireVertex_0 rfl rfl ?_
  refine g_if_lt X 12 d_D_requireVertex_1 (by decide) (fun hc => ?_) (fun hc => ?_)
  · exact absurd hc (nI_pos (by omega))
  clear hc
  refine g_iload_n X 1 d_D_requireVertex_4 rfl rfl ?_
  refine g_aload_n X 0 d_D_requireVertex_5 rfl rfl ?_
  refine r_rows X kf_D_58 d_D_requireVertex_6 (by omega) ?_
  refine g_icmp_lt X 22 d_D_requireVertex_9 (by decide) (fun hc => ?_) (fun hc => ?_)
  · exact g_vret X KOk.p d_D_requireVertex_22 ⟨rfl, rfl⟩
  · exact absurd (nI_lt hv (by omega)) hc
set_option maxHeartbeats 4000000 in
set_option maxRecDepth 100000 in
theorem c_D_reqVe_x {l : Launch} (htr : l.stackTraces = false) {δ : EX} {ad : Nat → Nat} {M : DS} {a : Nat} {x : Int32} (ha : a < 7) (h : x < 0 ∨ nI (M a).1 ≤ x) : CTP l y_D_requireVertex cw_D_requireVertex (RM 0) δ (dl δ ad M) [.ref (mq ad a), .int x] (.inl 3) := by
  refine CT.ofP (lv := [(0, .ref (mq ad a)), (1, .int x)]) (Or.inl ⟨rfl, rfl⟩) (by decide) htr rfl (Nat.le_of_ble_eq_true rfl) (fun κ hl X => ?_)
  subst hl
  refine g_iload_n X 1 d_D_requireVertex_0 rfl rfl ?_
  refine g_if_lt X 12 d_D_requireVertex_1 (by decide) (fun hc => ?_) (fun hc => ?_)
  · exact x_3 X kr_D_214 d_D_requireVertex_12 d_D_requireVertex_15 d_D_requireVertex_16 d_D_requireVertex_18 d_D_requireVertex_21 ⟨Nat.le_of_ble_eq_true rfl, Nat.le_of_ble_eq_true rfl, Nat.le_of_ble_eq_true rfl, Nat.le_of_ble_eq_true rfl⟩ ⟨rfl, rfl⟩
  refine g_iload_n X 1 d_D_requireVertex_4 rfl rfl ?_
  refine g_aload_n X 0 d_D_requireVertex_5 rfl rfl ?_
  refine r_rows X kf_D_58 d_D_requireVertex_6 (by omega) ?_
  refine g_icmp_lt X 22 d_D_requireVertex_9 (by decide) (fun hd => ?_) (fun hd => ?_)
  · rcases h with h | h
    · exact absurd h hc
    · exact absurd hd (Int32.not_lt.mpr h)
  · exact x_3 X kr_D_214 d_D_requireVertex_12 d_D_requireVertex_15 d_D_requireVertex_16 d_D_requireVertex_18 d_D_requireVertex_21 ⟨Nat.le_of_ble_eq_true rfl, Nat.le_of_ble_eq_true rfl, Nat.le_of_ble_eq_true rfl, Nat.le_of_ble_eq_true rfl⟩ ⟨rfl, rfl⟩
def seB (h i j : Nat) (v x : Int64) : Bool := if h = 0 then decide (v < x) else if h = 1 then decide (x < v) else if h = 2 then decide (i < j) else if h = 3 then decide (j < i) else decide (i = j)
set_option maxHeartbeats 4000000 in
set_option maxRecDepth 100000 in
theorem c_D_isSel {l : Launch} (htr : l.stackTraces = false) {δ : EX} {ad : Nat → Nat} {M : DS} {h i j : Nat} {v x : Int64} (hh : h ≤ 4) (hi : i < 8) (hj : j < 8) : CTP l y_D_isSelected cw_D_isSelected (RM 0) δ (dl δ ad M) [.int (nI h), .int (nI i), .int (nI j), .long v, .long x] (.inr (some (.int (b2 (seB h i j v x))))) := by
  refine CT.ofP (lv := [(0, .int (nI h)), (1, .int (nI i)), (2, .int (nI j)), (3, .long v), (5, .long x)]) (Or.inl ⟨rfl, rfl⟩) (by decide) htr rfl (Nat.le_of_ble_eq_true rfl) (fun κ hl X => ?_)
  subst hl
  refine g_iload_n X 0 d_D_isSelected_0 rfl rfl ?_
  obtain rfl | rfl | rfl | rfl | rfl : h = 0 ∨ h = 1 ∨ h = 2 ∨ h = 3 ∨ h = 4 := by omega
  · refine g_tin X (off := 31) 32 d_D_isSelected_1 (by decide) (by decide) (by decide) (by decide) ?_
    refine g_lload_n X 3 d_D_isSelected_32 rfl rfl ?_
    refine g_lload X d_D_isSelected_33 rfl ?_
    refine g_lcmp X d_D_isSelected_35 ?_
    refine g_if_ge X 43 d_D_isSelected_36 (by decide) (fun hc => ?_) (fun hc => ?_)
    · have h2 := Int64.not_lt.mpr ((lg_cmp_ge _ _).mp hc)
      refine g_iconst X (v := 0) d_D_isSelected_43 (by decide) ?_
      exact g_zret X KOk.p (by decide) d_D_isSelected_44 ⟨by simp [seB, b2, h2], rfl⟩
    · have h2 := Int64.not_le.mp (fun q => hc ((lg_cmp_ge _ _).mpr q))
      refine g_iconst X (v := 1) d_D_isSelected_39 (by decide) ?_
      refine g_goto X 44 d_D_isSelected_40 (by decide) ?_
      exact g_zret X KOk.p (by decide) d_D_isSelected_44 ⟨by simp [seB, b2, h2], rfl⟩
  · refine g_tin X (off := 44) 45 d_D_isSelected_1 (by decide) (by decide) (by decide) (by decide) ?_
    refine g_lload_n X 3 d_D_isSelected_45 rfl rfl ?_
    refine g_lload X d_D_isSelected_46 rfl ?_
    refine g_lcmp X d_D_isSelected_48 ?_
    refine g_if_le X 56 d_D_isSelected_49 (by decide) (fun hc => ?_) (fun hc => ?_)
    · have h2 := Int64.not_lt.mpr ((lg_cmp_le _ _).mp hc)
      refine g_iconst X (v := 0) d_D_isSelected_56 (by decide) ?_
      exact g_zret X KOk.p (by decide) d_D_isSelected_57 ⟨by simp [seB, b2, h2], rfl⟩
    · have h2 := Int64.not_le.mp (fun q => hc ((lg_cmp_le _ _).mpr q))
      refine g_iconst X (v := 1) d_D_isSelected_52 (by decide) ?_
      refine g_goto X 57 d_D_isSelected_53 (by decide) ?_
      exact g_zret X KOk.p (by decide) d_D_isSelected_57 ⟨by simp [seB, b2, h2], rfl⟩
  · refine g_tin X (off := 57) 58 d_D_isSelected_1 (by decide) (by decide) (by decide) (by decide) ?_
    refine g_iload_n X 1 d_D_isSelected_58 rfl rfl ?_
    refine g_iload_n X 2 d_D_isSelected_59 rfl rfl ?_
    refine g_icmp_ge X 67 d_D_isSelected_60 (by decide) (fun hc => ?_) (fun hc => ?_)
    · have h2 : ¬ i < j := fun q => nI_ge q (by omega) hc
      refine g_iconst X (v := 0) d_D_isSelected_67 (by decide) ?_
      exact g_zret X KOk.p (by decide) d_D_isSelected_68 ⟨by simp [seB, b2, h2], rfl⟩
    · have h2 : i < j := Nat.not_le.mp (fun q => hc (nI_le q (by omega)))
      refine g_iconst X (v := 1) d_D_isSelected_63 (by decide) ?_
      refine g_goto X 68 d_D_isSelected_64 (by decide) ?_
      exact g_zret X KOk.p (by decide) d_D_isSelected_68 ⟨by simp [seB, b2, h2], rfl⟩
  · refine g_tin X (off := 68) 69 d_D_isSelected_1 (by decide) (by decide) (by decide) (by decide) ?_
    refine g_iload_n X 1 d_D_isSelected_69 rfl rfl ?_
    refine g_iload_n X 2 d_D_isSelected_70 rfl rfl ?_
    refine g_icmp_le X 78 d_D_isSelected_71 (by decide) (fun hc => ?_) (fun hc => ?_)
    · have h2 : ¬ j < i := fun q => nI_ge q (by omega) hc
      refine g_iconst X (v := 0) d_D_isSelected_78 (by decide) ?_
      exact g_zret X KOk.p (by decide) d_D_isSelected_79 ⟨by simp [seB, b2, h2], rfl⟩
    · have h2 : j < i := Nat.not_le.mp (fun q => hc (nI_le q (by omega)))
      refine g_iconst X (v := 1) d_D_isSelected_74 (by decide) ?_
      refine g_goto X 79 d_D_isSelected_75 (by decide) ?_
      exact g_zret X KOk.p (by decide) d_D_isSelected_79 ⟨by simp [seB, b2, h2], rfl⟩
  · refine g_tout X 80 d_D_isSelected_1 (by decide) (by decide) ?_
    refine g_iload_n X 1 d_D_isSelected_80 rfl rfl ?_
    refine g_iload_n X 2 d_D_isSelected_81 rfl rfl ?_
    refine g_icmp_ne X 89 d_D_isSelected_82 (by decide) (fun hc => ?_) (fun hc => ?_)
    · have h2 : ¬ i = j := fun q => hc (by rw [q])
      refine g_iconst X (v := 0) d_D_isSelected_89 (by decide) ?_
      exact g_zret X KOk.p (by decide) d_D_isSelected_90 ⟨by simp [seB, b2, h2], rfl⟩
    · have h2 : i = j := (nI_eq (by omega) (by omega)).mp hc
      refine g_iconst X (v := 1) d_D_isSelected_85 (by decide) ?_
      refine g_goto X 90 d_D_isSelected_86 (by decide) ?_
      exact g_zret X KOk.p (by decide) d_D_isSelected_90 ⟨by simp [seB, b2, h2], rfl⟩
end RB
