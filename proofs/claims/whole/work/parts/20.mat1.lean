section MA
theorem va_up_s {α : Type} (f : Nat → α) (k : Nat) (v : α) : va_up f k v k = v := by simp [va_up]
theorem va_up_n {α : Type} {f : Nat → α} {k j : Nat} (v : α) (h : j ≠ k) : va_up f k v j = f j := by simp [va_up, h]
set_option maxHeartbeats 4000000 in
set_option maxRecDepth 100000 in
theorem c_M_has {l : Launch} (htr : l.stackTraces = false) {δ : EX} {ad : Nat → Nat} {M : DS} {r i j : Nat} (hr : r < 7) (hi : i < 8) (hj : j < 8) : CTP l y_M_has cw_M_has (RM 0) δ (dl δ ad M) [.ref (mq ad r), .int (nI i), .int (nI j)] (.inr (some (.int (b2 (mHas (M r) (8 * i + j)))))) := by
  refine CT.ofP (lv := [(0, .ref (mq ad r)), (1, .int (nI i)), (2, .int (nI j))]) (Or.inl ⟨rfl, rfl⟩) (by decide) htr rfl (Nat.le_of_ble_eq_true rfl) (fun κ hl X => ?_)
  subst hl
  refine g_aload_n X 0 d_M_has_0 rfl rfl ?_
  refine r_fils X kf_M_22 d_M_has_1 (by omega) ?_
  refine g_iload_n X 1 d_M_has_4 rfl rfl ?_
  refine g_bipush X (v := 8) d_M_has_5 (by decide) ?_
  refine g_imul X d_M_has_7 ?_
  refine g_iload_n X 2 d_M_has_8 rfl rfl ?_
  refine g_iadd X d_M_has_9 ?_
  refine r_zald X ix8 (by omega) (by omega) d_M_has_10 ?_
  exact g_zret X KOk.p (b2_nar _) d_M_has_11 ⟨rfl, rfl⟩
set_option maxHeartbeats 4000000 in
set_option maxRecDepth 100000 in
theorem c_M_value {l : Launch} (htr : l.stackTraces = false) {δ : EX} {ad : Nat → Nat} {M : DS} {r i j : Nat} (hr : r < 7) (hi : i < 8) (hj : j < 8) : CTP l y_M_value cw_M_value (RM 0) δ (dl δ ad M) [.ref (mq ad r), .int (nI i), .int (nI j)] (.inr (some (.long (mVal (M r) (8 * i + j))))) := by
  refine CT.ofP (lv := [(0, .ref (mq ad r)), (1, .int (nI i)), (2, .int (nI j))]) (Or.inl ⟨rfl, rfl⟩) (by decide) htr rfl (Nat.le_of_ble_eq_true rfl) (fun κ hl X => ?_)
  subst hl
  refine g_aload_n X 0 d_M_value_0 rfl rfl ?_
  refine r_vals X kf_M_18 d_M_value_1 (by omega) ?_
  refine g_iload_n X 1 d_M_value_4 rfl rfl ?_
  refine g_bipush X (v := 8) d_M_value_5 (by decide) ?_
  refine g_imul X d_M_value_7 ?_
  refine g_iload_n X 2 d_M_value_8 rfl rfl ?_
  refine g_iadd X d_M_value_9 ?_
  refine r_lald X ix8 (by omega) (by omega) d_M_value_10 ?_
  exact g_lret X KOk.p d_M_value_11 ⟨rfl, rfl⟩
set_option maxHeartbeats 4000000 in
set_option maxRecDepth 100000 in
theorem c_M_enter {l : Launch} (htr : l.stackTraces = false) {δ : EX} {ad : Nat → Nat} {M : DS} (hinj : Inj ad) {r i j : Nat} {v : Int64} (hr : r < 7) (hi : i < 8) (hj : j < 8) : CTN l y_M_enter cw_M_enter (RM 0) δ (Ar ad) (dl δ ad M) [.ref (mq ad r), .int (nI i), .int (nI j), .long v] none (dl δ ad (va_up M r (mEnter (M r) (8 * i + j) v))) := by
  refine CT.ofN (lv := [(0, .ref (mq ad r)), (1, .int (nI i)), (2, .int (nI j)), (3, .long v)]) (Or.inl ⟨rfl, rfl⟩) (by decide) htr rfl (Nat.le_of_ble_eq_true rfl) (fun κ hl X => ?_)
  subst hl
  refine g_aload_n X 0 d_M_enter_0 rfl rfl ?_
  refine r_vals X kf_M_18 d_M_enter_1 (by omega) ?_
  refine g_iload_n X 1 d_M_enter_4 rfl rfl ?_
  refine g_bipush X (v := 8) d_M_enter_5 (by decide) ?_
  refine g_imul X d_M_enter_7 ?_
  refine g_iload_n X 2 d_M_enter_8 rfl rfl ?_
  refine g_iadd X d_M_enter_9 ?_
  refine g_lload_n X 3 d_M_enter_10 rfl rfl ?_
  refine r_last X hinj ix8 (by omega) hr d_M_enter_11 ?_
  refine g_aload_n X 0 d_M_enter_12 rfl rfl ?_
  refine r_fils X kf_M_22 d_M_enter_13 (by omega) ?_
  refine g_iload_n X 1 d_M_enter_16 rfl rfl ?_
  refine g_bipush X (v := 8) d_M_enter_17 (by decide) ?_
  refine g_imul X d_M_enter_19 ?_
  refine g_iload_n X 2 d_M_enter_20 rfl rfl ?_
  refine g_iadd X d_M_enter_21 ?_
  refine g_iconst X (v := 1) d_M_enter_22 (by decide) ?_
  refine r_zast X hinj true ix8 (by omega) hr (by decide) d_M_enter_23 ?_
  refine g_vret X KOk.n d_M_enter_24 ⟨rfl, ?_⟩
  simp only [bx_uu, va_up_s, mEnter]
set_option maxHeartbeats 4000000 in
set_option maxRecDepth 100000 in
theorem c_M_remove {l : Launch} (htr : l.stackTraces = false) {δ : EX} {ad : Nat → Nat} {M : DS} (hinj : Inj ad) {r i j : Nat} (hr : r < 7) (hi : i < 8) (hj : j < 8) : CTN l y_M_remove cw_M_remove (RM 0) δ (Ar ad) (dl δ ad M) [.ref (mq ad r), .int (nI i), .int (nI j)] none (dl δ ad (va_up M r (mRem (M r) (8 * i + j)))) := by
  refine CT.ofN (lv := [(0, .ref (mq ad r)), (1, .int (nI i)), (2, .int (nI j))]) (Or.inl ⟨rfl, rfl⟩) (by decide) htr rfl (Nat.le_of_ble_eq_true rfl) (fun κ hl X => ?_)
  subst hl
  refine g_aload_n X 0 d_M_remove_0 rfl rfl ?_
  refine r_fils X kf_M_22 d_M_remove_1 (by omega) ?_
  refine g_iload_n X 1 d_M_remove_4 rfl rfl ?_
  refine g_bipush X (v := 8) d_M_remove_5 (by decide) ?_
  refine g_imul X d_M_remove_7 ?_
  refine g_iload_n X 2 d_M_remove_8 rfl rfl ?_
  refine g_iadd X d_M_remove_9 ?_
  refine g_iconst X (v := 0) d_M_remove_10 (by decide) ?_
  refine r_zast X hinj false ix8 (by omega) hr (by decide) d_M_remove_11 ?_
  exact g_vret X KOk.n d_M_remove_12 ⟨rfl, rfl⟩
end MA
