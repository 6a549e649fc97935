section PA
set_option maxHeartbeats 4000000 in
set_option maxRecDepth 100000 in
theorem c_D_shape {l : Launch} (htr : l.stackTraces = false) {δ : EX} {ad : Nat → Nat} {M : DS} (hinj : Inj ad) {r m n : Nat} (hr : r < 6) (h1 : 1 ≤ m) (h2 : m ≤ 8) (h3 : 1 ≤ n) (h4 : n ≤ 8) : CTN l y_D_shape cw_D_shape (RM 2) δ (Ar ad) (dl δ ad M) [.ref (ad 0), .int (nI r), .int (nI m), .int (nI n)] none (dl δ ad (va_up M r (mClear (M r) m n))) := by
  refine CT.ofN (lv := [(0, .ref (ad 0)), (1, .int (nI r)), (2, .int (nI m)), (3, .int (nI n))]) (Or.inl ⟨rfl, rfl⟩) (by decide) htr rfl (Nat.le_of_ble_eq_true rfl) (fun κ hl X => ?_)
  subst hl
  refine g_iload_n X 1 d_D_shape_0 rfl rfl ?_
  refine g_SP X KOk.n s_D_20 (c_D_reqReg htr hr) d_D_shape_1 rfl ⟨Nat.le_of_ble_eq_true rfl, Nat.le_of_ble_eq_true rfl, Nat.le_of_ble_eq_true rfl, Nat.le_of_ble_eq_true rfl⟩ ?_
  refine g_iload_n X 2 d_D_shape_4 rfl rfl ?_
  refine g_SP X KOk.n s_D_24 (c_D_reqSide htr h1 h2) d_D_shape_5 rfl ⟨Nat.le_of_ble_eq_true rfl, Nat.le_of_ble_eq_true rfl, Nat.le_of_ble_eq_true rfl, Nat.le_of_ble_eq_true rfl⟩ ?_
  refine g_iload_n X 3 d_D_shape_8 rfl rfl ?_
  refine g_SP X KOk.n s_D_24 (c_D_reqSide htr h3 h4) d_D_shape_9 rfl ⟨Nat.le_of_ble_eq_true rfl, Nat.le_of_ble_eq_true rfl, Nat.le_of_ble_eq_true rfl, Nat.le_of_ble_eq_true rfl⟩ ?_
  refine g_aload_n X 0 d_D_shape_12 rfl rfl ?_
  refine r_regs X d_D_shape_13 ?_
  refine g_iload_n X 1 d_D_shape_16 rfl rfl ?_
  refine r_aald X rfl (by omega) d_D_shape_17 ?_
  refine g_iload_n X 2 d_D_shape_18 rfl rfl ?_
  refine g_iload_n X 3 d_D_shape_19 rfl rfl ?_
  refine g_VN1 X v_D_27 (dl_m (by omega)) rfl (c_M_clear htr hinj (by omega)) d_D_shape_20 rfl ⟨Nat.le_of_ble_eq_true rfl, Nat.le_of_ble_eq_true rfl, Nat.le_of_ble_eq_true rfl, Nat.le_of_ble_eq_true rfl⟩ ?_
  exact g_vret X KOk.n d_D_shape_23 ⟨rfl, rfl⟩
set_option maxHeartbeats 4000000 in
set_option maxRecDepth 100000 in
theorem c_D_shape_x {l : Launch} (htr : l.stackTraces = false) {δ : EX} {ad : Nat → Nat} {M : DS} {x p q : Int32} (h : bR x ∨ bD p ∨ bD q) : CTP l y_D_shape cw_D_shape (RM 2) δ (dl δ ad M) [.ref (ad 0), .int x, .int p, .int q] (.inl 1) := by
  refine CT.ofP (lv := [(0, .ref (ad 0)), (1, .int x), (2, .int p), (3, .int q)]) (Or.inl ⟨rfl, rfl⟩) (by decide) htr rfl (Nat.le_of_ble_eq_true rfl) (fun κ hl X => ?_)
  subst hl
  refine g_iload_n X 1 d_D_shape_0 rfl rfl ?_
  rcases bR_or x with hb | ⟨r, hr, rfl⟩
  · exact g_ST X KOk.p s_D_20 (c_D_reqReg_x htr hb) d_D_shape_1 rfl ⟨Nat.le_of_ble_eq_true rfl, Nat.le_of_ble_eq_true rfl, Nat.le_of_ble_eq_true rfl, Nat.le_of_ble_eq_true rfl⟩ ⟨rfl, rfl⟩
  refine g_SP X KOk.p s_D_20 (c_D_reqReg htr hr) d_D_shape_1 rfl ⟨Nat.le_of_ble_eq_true rfl, Nat.le_of_ble_eq_true rfl, Nat.le_of_ble_eq_true rfl, Nat.le_of_ble_eq_true rfl⟩ ?_
  refine g_iload_n X 2 d_D_shape_4 rfl rfl ?_
  rcases bD_or p with hb | ⟨m, h1, h2, rfl⟩
  · exact g_ST X KOk.p s_D_24 (c_D_reqSide_x htr hb) d_D_shape_5 rfl ⟨Nat.le_of_ble_eq_true rfl, Nat.le_of_ble_eq_true rfl, Nat.le_of_ble_eq_true rfl, Nat.le_of_ble_eq_true rfl⟩ ⟨rfl, rfl⟩
  refine g_SP X KOk.p s_D_24 (c_D_reqSide htr h1 h2) d_D_shape_5 rfl ⟨Nat.le_of_ble_eq_true rfl, Nat.le_of_ble_eq_true rfl, Nat.le_of_ble_eq_true rfl, Nat.le_of_ble_eq_true rfl⟩ ?_
  refine g_iload_n X 3 d_D_shape_8 rfl rfl ?_
  rcases h with h | h | h
  · exact absurd h (bR_no hr)
  · exact absurd h (bD_no h1 h2)
  · exact g_ST X KOk.p s_D_24 (c_D_reqSide_x htr h) d_D_shape_9 rfl ⟨Nat.le_of_ble_eq_true rfl, Nat.le_of_ble_eq_true rfl, Nat.le_of_ble_eq_true rfl, Nat.le_of_ble_eq_true rfl⟩ ⟨rfl, rfl⟩
set_option maxHeartbeats 4000000 in
set_option maxRecDepth 100000 in
theorem c_D_put {l : Launch} (htr : l.stackTraces = false) {δ : EX} {ad : Nat → Nat} {M : DS} (hinj : Inj ad) {r i j : Nat} {v : Int64} (hr : r < 6) (hi : i < (M r).1) (hj : j < (M r).2.1) (h1 : (M r).1 ≤ 8) (h2 : (M r).2.1 ≤ 8) (hv : inR v = true) : CTN l y_D_put cw_D_put (RM 2) δ (Ar ad) (dl δ ad M) [.ref (ad 0), .int (nI r), .int (nI i), .int (nI j), .long v] none (dl δ ad (va_up M r (mEnter (M r) (8 * i + j) v))) := by
  refine CT.ofN (lv := [(0, .ref (ad 0)), (1, .int (nI r)), (2, .int (nI i)), (3, .int (nI j)), (4, .long v)]) (Or.inl ⟨rfl, rfl⟩) (by decide) htr rfl (Nat.le_of_ble_eq_true rfl) (fun κ hl X => ?_)
  subst hl
  refine g_aload_n X 0 d_D_put_0 rfl rfl ?_
  refine g_iload_n X 1 d_D_put_1 rfl rfl ?_
  refine g_iload_n X 2 d_D_put_2 rfl rfl ?_
  refine g_iload_n X 3 d_D_put_3 rfl rfl ?_
  refine g_VP X KOk.n v_D_31 (dl_0) rfl (c_D_reqPl htr hr hi hj h1 h2) d_D_put_4 rfl ⟨Nat.le_of_ble_eq_true rfl, Nat.le_of_ble_eq_true rfl, Nat.le_of_ble_eq_true rfl, Nat.le_of_ble_eq_true rfl⟩ ?_
  refine g_lload X d_D_put_7 rfl ?_
  refine g_SP X KOk.n s_D_35 (c_D_reqVal htr hv) d_D_put_9 rfl ⟨Nat.le_of_ble_eq_true rfl, Nat.le_of_ble_eq_true rfl, Nat.le_of_ble_eq_true rfl, Nat.le_of_ble_eq_true rfl⟩ ?_
  refine g_aload_n X 0 d_D_put_12 rfl rfl ?_
  refine r_regs X d_D_put_13 ?_
  refine g_iload_n X 1 d_D_put_16 rfl rfl ?_
  refine r_aald X rfl (by omega) d_D_put_17 ?_
  refine g_iload_n X 2 d_D_put_18 rfl rfl ?_
  refine g_iload_n X 3 d_D_put_19 rfl rfl ?_
  refine g_lload X d_D_put_20 rfl ?_
  refine g_VN1 X v_D_39 (dl_m (by omega)) rfl (c_M_enter htr hinj (by omega) (by omega) (by omega)) d_D_put_22 rfl ⟨Nat.le_of_ble_eq_true rfl, Nat.le_of_ble_eq_true rfl, Nat.le_of_ble_eq_true rfl, Nat.le_of_ble_eq_true rfl⟩ ?_
  exact g_vret X KOk.n d_D_put_25 ⟨rfl, rfl⟩
set_option maxHeartbeats 4000000 in
set_option maxRecDepth 100000 in
theorem c_D_put_x1 {l : Launch} (htr : l.stackTraces = false) {δ : EX} {ad : Nat → Nat} {M : DS} {x i j : Int32} {v : Int64} (hx : bR x) : CTP l y_D_put cw_D_put (RM 2) δ (dl δ ad M) [.ref (ad 0), .int x, .int i, .int j, .long v] (.inl 1) := by
  refine CT.ofP (lv := [(0, .ref (ad 0)), (1, .int x), (2, .int i), (3, .int j), (4, .long v)]) (Or.inl ⟨rfl, rfl⟩) (by decide) htr rfl (Nat.le_of_ble_eq_true rfl) (fun κ hl X => ?_)
  subst hl
  refine g_aload_n X 0 d_D_put_0 rfl rfl ?_
  refine g_iload_n X 1 d_D_put_1 rfl rfl ?_
  refine g_iload_n X 2 d_D_put_2 rfl rfl ?_
  refine g_iload_n X 3 d_D_put_3 rfl rfl ?_
  exact g_VT X KOk.p v_D_31 (dl_0) rfl (c_D_reqPl_x1 htr hx) d_D_put_4 rfl ⟨Nat.le_of_ble_eq_true rfl, Nat.le_of_ble_eq_true rfl, Nat.le_of_ble_eq_true rfl, Nat.le_of_ble_eq_true rfl⟩ ⟨rfl, rfl⟩
set_option maxHeartbeats 4000000 in
set_option maxRecDepth 100000 in
theorem c_D_put_x2 {l : Launch} (htr : l.stackTraces = false) {δ : EX} {ad : Nat → Nat} {M : DS} {r : Nat} {i j : Int32} {v : Int64} (hr : r < 6) (h : i < 0 ∨ nI (M r).1 ≤ i ∨ j < 0 ∨ nI (M r).2.1 ≤ j) : CTP l y_D_put cw_D_put (RM 2) δ (dl δ ad M) [.ref (ad 0), .int (nI r), .int i, .int j, .long v] (.inl 1) := by
  refine CT.ofP (lv := [(0, .ref (ad 0)), (1, .int (nI r)), (2, .int i), (3, .int j), (4, .long v)]) (Or.inl ⟨rfl, rfl⟩) (by decide) htr rfl (Nat.le_of_ble_eq_true rfl) (fun κ hl X => ?_)
  subst hl
  refine g_aload_n X 0 d_D_put_0 rfl rfl ?_
  refine g_iload_n X 1 d_D_put_1 rfl rfl ?_
  refine g_iload_n X 2 d_D_put_2 rfl rfl ?_
  refine g_iload_n X 3 d_D_put_3 rfl rfl ?_
  exact g_VT X KOk.p v_D_31 (dl_0) rfl (c_D_reqPl_x2 htr hr h) d_D_put_4 rfl ⟨Nat.le_of_ble_eq_true rfl, Nat.le_of_ble_eq_true rfl, Nat.le_of_ble_eq_true rfl, Nat.le_of_ble_eq_true rfl⟩ ⟨rfl, rfl⟩
set_option maxHeartbeats 4000000 in
set_option maxRecDepth 100000 in
theorem c_D_put_x3 {l : Launch} (htr : l.stackTraces = false) {δ : EX} {ad : Nat → Nat} {M : DS} {r i j : Nat} {v : Int64} (hr : r < 6) (hi : i < (M r).1) (hj : j < (M r).2.1) (h1 : (M r).1 ≤ 8) (h2 : (M r).2.1 ≤ 8) (hv : inR v = false) : CTP l y_D_put cw_D_put (RM 2) δ (dl δ ad M) [.ref (ad 0), .int (nI r), .int (nI i), .int (nI j), .long v] (.inl 1) := by
  refine CT.ofP (lv := [(0, .ref (ad 0)), (1, .int (nI r)), (2, .int (nI i)), (3, .int (nI j)), (4, .long v)]) (Or.inl ⟨rfl, rfl⟩) (by decide) htr rfl (Nat.le_of_ble_eq_true rfl) (fun κ hl X => ?_)
  subst hl
  refine g_aload_n X 0 d_D_put_0 rfl rfl ?_
  refine g_iload_n X 1 d_D_put_1 rfl rfl ?_
  refine g_iload_n X 2 d_D_put_2 rfl rfl ?_
  refine g_iload_n X 3 d_D_put_3 rfl rfl ?_
  refine g_VP X KOk.p v_D_31 (dl_0) rfl (c_D_reqPl htr hr hi hj h1 h2) d_D_put_4 rfl ⟨Nat.le_of_ble_eq_true rfl, Nat.le_of_ble_eq_true rfl, Nat.le_of_ble_eq_true rfl, Nat.le_of_ble_eq_true rfl⟩ ?_
  refine g_lload X d_D_put_7 rfl ?_
  exact g_ST X KOk.p s_D_35 (c_D_reqVal_x htr hv) d_D_put_9 rfl ⟨Nat.le_of_ble_eq_true rfl, Nat.le_of_ble_eq_true rfl, Nat.le_of_ble_eq_true rfl, Nat.le_of_ble_eq_true rfl⟩ ⟨rfl, rfl⟩
set_option maxHeartbeats 4000000 in
set_option maxRecDepth 100000 in
theorem c_D_drop {l : Launch} (htr : l.stackTraces = false) {δ : EX} {ad : Nat → Nat} {M : DS} (hinj : Inj ad) {r i j : Nat} (hr : r < 6) (hi : i < (M r).1) (hj : j < (M r).2.1) (h1 : (M r).1 ≤ 8) (h2 : (M r).2.1 ≤ 8) : CTN l y_D_drop cw_D_drop (RM 2) δ (Ar ad) (dl δ ad M) [.ref (ad 0), .int (nI r), .int (nI i), .int (nI j)] (some (.int (b2 (mHas (M r) (8 * i + j))))) (dl δ ad (va_up M r (mRem (M r) (8 * i + j)))) := by
  refine CT.ofN (lv := [(0, .ref (ad 0)), (1, .int (nI r)), (2, .int (nI i)), (3, .int (nI j))]) (Or.inl ⟨rfl, rfl⟩) (by decide) htr rfl (Nat.le_of_ble_eq_true rfl) (fun κ hl X => ?_)
  subst hl
  refine g_aload_n X 0 d_D_drop_0 rfl rfl ?_
  refine g_iload_n X 1 d_D_drop_1 rfl rfl ?_
  refine g_iload_n X 2 d_D_drop_2 rfl rfl ?_
  refine g_iload_n X 3 d_D_drop_3 rfl rfl ?_
  refine g_VP X KOk.n v_D_31 (dl_0) rfl (c_D_reqPl htr hr hi hj h1 h2) d_D_drop_4 rfl ⟨Nat.le_of_ble_eq_true rfl, Nat.le_of_ble_eq_true rfl, Nat.le_of_ble_eq_true rfl, Nat.le_of_ble_eq_true rfl⟩ ?_
  refine g_aload_n X 0 d_D_drop_7 rfl rfl ?_
  refine r_regs X d_D_drop_8 ?_
  refine g_iload_n X 1 d_D_drop_11 rfl rfl ?_
  refine r_aald X rfl (by omega) d_D_drop_12 ?_
  refine g_iload_n X 2 d_D_drop_13 rfl rfl ?_
  refine g_iload_n X 3 d_D_drop_14 rfl rfl ?_
  refine g_VP X KOk.n v_D_43 (dl_m (by omega)) rfl (c_M_has htr (by omega) (by omega) (by omega)) d_D_drop_15 rfl ⟨Nat.le_of_ble_eq_true rfl, Nat.le_of_ble_eq_true rfl, Nat.le_of_ble_eq_true rfl, Nat.le_of_ble_eq_true rfl⟩ ?_
  refine g_istore X d_D_drop_18 (by decide) ?_
  refine g_aload_n X 0 d_D_drop_20 rfl rfl ?_
  refine r_regs X d_D_drop_21 ?_
  refine g_iload_n X 1 d_D_drop_24 rfl rfl ?_
  refine r_aald X rfl (by omega) d_D_drop_25 ?_
  refine g_iload_n X 2 d_D_drop_26 rfl rfl ?_
  refine g_iload_n X 3 d_D_drop_27 rfl rfl ?_
  refine g_VN1 X v_D_47 (dl_m (by omega)) rfl (c_M_remove htr hinj (by omega) (by omega) (by omega)) d_D_drop_28 rfl ⟨Nat.le_of_ble_eq_true rfl, Nat.le_of_ble_eq_true rfl, Nat.le_of_ble_eq_true rfl, Nat.le_of_ble_eq_true rfl⟩ ?_
  refine g_iload X d_D_drop_31 rfl ?_
  exact g_zret X KOk.n (b2_nar _) d_D_drop_33 ⟨rfl, rfl⟩
set_option maxHeartbeats 4000000 in
set_option maxRecDepth 100000 in
theorem c_D_drop_x1 {l : Launch} (htr : l.stackTraces = false) {δ : EX} {ad : Nat → Nat} {M : DS} {x i j : Int32} (hx : bR x) : CTP l y_D_drop cw_D_drop (RM 2) δ (dl δ ad M) [.ref (ad 0), .int x, .int i, .int j] (.inl 1) := by
  refine CT.ofP (lv := [(0, .ref (ad 0)), (1, .int x), (2, .int i), (3, .int j)]) (Or.inl ⟨rfl, rfl⟩) (by decide) htr rfl (Nat.le_of_ble_eq_true rfl) (fun κ hl X => ?_)
  subst hl
  refine g_aload_n X 0 d_D_drop_0 rfl rfl ?_
  refine g_iload_n X 1 d_D_drop_1 rfl rfl ?_
  refine g_iload_n X 2 d_D_drop_2 rfl rfl ?_
  refine g_iload_n X 3 d_D_drop_3 rfl rfl ?_
  exact g_VT X KOk.p v_D_31 (dl_0) rfl (c_D_reqPl_x1 htr hx) d_D_drop_4 rfl ⟨Nat.le_of_ble_eq_true rfl, Nat.le_of_ble_eq_true rfl, Nat.le_of_ble_eq_true rfl, Nat.le_of_ble_eq_true rfl⟩ ⟨rfl, rfl⟩
set_option maxHeartbeats 4000000 in
set_option maxRecDepth 100000 in
theorem c_D_drop_x2 {l : Launch} (htr : l.stackTraces = false) {δ : EX} {ad : Nat → Nat} {M : DS} {r : Nat} {i j : Int32} (hr : r < 6) (h : i < 0 ∨ nI (M r).1 ≤ i ∨ j < 0 ∨ nI (M r).2.1 ≤ j) : CTP l y_D_drop cw_D_drop (RM 2) δ (dl δ ad M) [.ref (ad 0), .int (nI r), .int i, .int j] (.inl 1) := by
  refine CT.ofP (lv := [(0, .ref (ad 0)), (1, .int (nI r)), (2, .int i), (3, .int j)]) (Or.inl ⟨rfl, rfl⟩) (by decide) htr rfl (Nat.le_of_ble_eq_true rfl) (fun κ hl X => ?_)
  subst hl
  refine g_aload_n X 0 d_D_drop_0 rfl rfl ?_
  refine g_iload_n X 1 d_D_drop_1 rfl rfl ?_
  refine g_iload_n X 2 d_D_drop_2 rfl rfl ?_
  refine g_iload_n X 3 d_D_drop_3 rfl rfl ?_
  exact g_VT X KOk.p v_D_31 (dl_0) rfl (c_D_reqPl_x2 htr hr h) d_D_drop_4 rfl ⟨Nat.le_of_ble_eq_true rfl, Nat.le_of_ble_eq_true rfl, Nat.le_of_ble_eq_true rfl, Nat.le_of_ble_eq_true rfl⟩ ⟨rfl, rfl⟩
set_option maxHeartbeats 4000000 in
set_option maxRecDepth 100000 in
theorem c_D_at {l : Launch} (htr : l.stackTraces = false) {δ : EX} {ad : Nat → Nat} {M : DS} {r i j : Nat} (hr : r < 6) (hi : i < (M r).1) (hj : j < (M r).2.1) (h1 : (M r).1 ≤ 8) (h2 : (M r).2.1 ≤ 8) (hh : mHas (M r) (8 * i + j) = true) : CTP l y_D_at cw_D_at (RM 2) δ (dl δ ad M) [.ref (ad 0), .int (nI r), .int (nI i), .int (nI j)] (.inr (some (.long (mVal (M r) (8 * i + j))))) := by
  refine CT.ofP (lv := [(0, .ref (ad 0)), (1, .int (nI r)), (2, .int (nI i)), (3, .int (nI j))]) (Or.inl ⟨rfl, rfl⟩) (by decide) htr rfl (Nat.le_of_ble_eq_true rfl) (fun κ hl X => ?_)
  subst hl
  refine g_aload_n X 0 d_D_at_0 rfl rfl ?_
  refine g_iload_n X 1 d_D_at_1 rfl rfl ?_
  refine g_iload_n X 2 d_D_at_2 rfl rfl ?_
  refine g_iload_n X 3 d_D_at_3 rfl rfl ?_
  refine g_VP X KOk.p v_D_31 (dl_0) rfl (c_D_reqPl htr hr hi hj h1 h2) d_D_at_4 rfl ⟨Nat.le_of_ble_eq_true rfl, Nat.le_of_ble_eq_true rfl, Nat.le_of_ble_eq_true rfl, Nat.le_of_ble_eq_true rfl⟩ ?_
  refine g_aload_n X 0 d_D_at_7 rfl rfl ?_
  refine r_regs X d_D_at_8 ?_
  refine g_iload_n X 1 d_D_at_11 rfl rfl ?_
  refine r_aald X rfl (by omega) d_D_at_12 ?_
  refine g_iload_n X 2 d_D_at_13 rfl rfl ?_
  refine g_iload_n X 3 d_D_at_14 rfl rfl ?_
  refine g_VP X KOk.p v_D_43 (dl_m (by omega)) rfl (c_M_has htr (by omega) (by omega) (by omega)) d_D_at_15 rfl ⟨Nat.le_of_ble_eq_true rfl, Nat.le_of_ble_eq_true rfl, Nat.le_of_ble_eq_true rfl, Nat.le_of_ble_eq_true rfl⟩ ?_
  refine g_SP X KOk.p s_D_50 (c_D_reqEntry htr hh) d_D_at_18 rfl ⟨Nat.le_of_ble_eq_true rfl, Nat.le_of_ble_eq_true rfl, Nat.le_of_ble_eq_true rfl, Nat.le_of_ble_eq_true rfl⟩ ?_
  refine g_aload_n X 0 d_D_at_21 rfl rfl ?_
  refine r_regs X d_D_at_22 ?_
  refine g_iload_n X 1 d_D_at_25 rfl rfl ?_
  refine r_aald X rfl (by omega) d_D_at_26 ?_
  refine g_iload_n X 2 d_D_at_27 rfl rfl ?_
  refine g_iload_n X 3 d_D_at_28 rfl rfl ?_
  refine g_VP X KOk.p v_D_54 (dl_m (by omega)) rfl (c_M_value htr (by omega) (by omega) (by omega)) d_D_at_29 rfl ⟨Nat.le_of_ble_eq_true rfl, Nat.le_of_ble_eq_true rfl, Nat.le_of_ble_eq_true rfl, Nat.le_of_ble_eq_true rfl⟩ ?_
  exact g_lret X KOk.p d_D_at_32 ⟨rfl, rfl⟩
set_option maxHeartbeats 4000000 in
set_option maxRecDepth 100000 in
theorem c_D_at_x1 {l : Launch} (htr : l.stackTraces = false) {δ : EX} {ad : Nat → Nat} {M : DS} {x i j : Int32} (hx : bR x) : CTP l y_D_at cw_D_at (RM 2) δ (dl δ ad M) [.ref (ad 0), .int x, .int i, .int j] (.inl 1) := by
  refine CT.ofP (lv := [(0, .ref (ad 0)), (1, .int x), (2, .int i), (3, .int j)]) (Or.inl ⟨rfl, rfl⟩) (by decide) htr rfl (Nat.le_of_ble_eq_true rfl) (fun κ hl X => ?_)
  subst hl
  refine g_aload_n X 0 d_D_at_0 rfl rfl ?_
  refine g_iload_n X 1 d_D_at_1 rfl rfl ?_
  refine g_iload_n X 2 d_D_at_2 rfl rfl ?_
  refine g_iload_n X 3 d_D_at_3 rfl rfl ?_
  exact g_VT X KOk.p v_D_31 (dl_0) rfl (c_D_reqPl_x1 htr hx) d_D_at_4 rfl ⟨Nat.le_of_ble_eq_true rfl, Nat.le_of_ble_eq_true rfl, Nat.le_of_ble_eq_true rfl, Nat.le_of_ble_eq_true rfl⟩ ⟨rfl, rfl⟩
set_option maxHeartbeats 4000000 in
set_option maxRecDepth 100000 in
theorem c_D_at_x2 {l : Launch} (htr : l.stackTraces = false) {δ : EX} {ad : Nat → Nat} {M : DS} {r : Nat} {i j : Int32} (hr : r < 6) (h : i < 0 ∨ nI (M r).1 ≤ i ∨ j < 0 ∨ nI (M r).2.1 ≤ j) : CTP l y_D_at cw_D_at (RM 2) δ (dl δ ad M) [.ref (ad 0), .int (nI r), .int i, .int j] (.inl 1) := by
  refine CT.ofP (lv := [(0, .ref (ad 0)), (1, .int (nI r)), (2, .int i), (3, .int j)]) (Or.inl ⟨rfl, rfl⟩) (by decide) htr rfl (Nat.le_of_ble_eq_true rfl) (fun κ hl X => ?_)
  subst hl
  refine g_aload_n X 0 d_D_at_0 rfl rfl ?_
  refine g_iload_n X 1 d_D_at_1 rfl rfl ?_
  refine g_iload_n X 2 d_D_at_2 rfl rfl ?_
  refine g_iload_n X 3 d_D_at_3 rfl rfl ?_
  exact g_VT X KOk.p v_D_31 (dl_0) rfl (c_D_reqPl_x2 htr hr h) d_D_at_4 rfl ⟨Nat.le_of_ble_eq_true rfl, Nat.le_of_ble_eq_true rfl, Nat.le_of_ble_eq_true rfl, Nat.le_of_ble_eq_true rfl⟩ ⟨rfl, rfl⟩
set_option maxHeartbeats 4000000 in
set_option maxRecDepth 100000 in
theorem c_D_at_x3 {l : Launch} (htr : l.stackTraces = false) {δ : EX} {ad : Nat → Nat} {M : DS} {r i j : Nat} (hr : r < 6) (hi : i < (M r).1) (hj : j < (M r).2.1) (h1 : (M r).1 ≤ 8) (h2 : (M r).2.1 ≤ 8) (hh : mHas (M r) (8 * i + j) = false) : CTP l y_D_at cw_D_at (RM 2) δ (dl δ ad M) [.ref (ad 0), .int (nI r), .int (nI i), .int (nI j)] (.inl 3) := by
  refine CT.ofP (lv := [(0, .ref (ad 0)), (1, .int (nI r)), (2, .int (nI i)), (3, .int (nI j))]) (Or.inl ⟨rfl, rfl⟩) (by decide) htr rfl (Nat.le_of_ble_eq_true rfl) (fun κ hl X => ?_)
  subst hl
  refine g_aload_n X 0 d_D_at_0 rfl rfl ?_
  refine g_iload_n X 1 d_D_at_1 rfl rfl ?_
  refine g_iload_n X 2 d_D_at_2 rfl rfl ?_
  refine g_iload_n X 3 d_D_at_3 rfl rfl ?_
  refine g_VP X KOk.p v_D_31 (dl_0) rfl (c_D_reqPl htr hr hi hj h1 h2) d_D_at_4 rfl ⟨Nat.le_of_ble_eq_true rfl, Nat.le_of_ble_eq_true rfl, Nat.le_of_ble_eq_true rfl, Nat.le_of_ble_eq_true rfl⟩ ?_
  refine g_aload_n X 0 d_D_at_7 rfl rfl ?_
  refine r_regs X d_D_at_8 ?_
  refine g_iload_n X 1 d_D_at_11 rfl rfl ?_
  refine r_aald X rfl (by omega) d_D_at_12 ?_
  refine g_iload_n X 2 d_D_at_13 rfl rfl ?_
  refine g_iload_n X 3 d_D_at_14 rfl rfl ?_
  refine g_VP X KOk.p v_D_43 (dl_m (by omega)) rfl (c_M_has htr (by omega) (by omega) (by omega)) d_D_at_15 rfl ⟨Nat.le_of_ble_eq_true rfl, Nat.le_of_ble_eq_true rfl, Nat.le_of_ble_eq_true rfl, Nat.le_of_ble_eq_true rfl⟩ ?_
  exact g_ST X KOk.p s_D_50 (c_D_reqEntry_x htr hh) d_D_at_18 rfl ⟨Nat.le_of_ble_eq_true rfl, Nat.le_of_ble_eq_true rfl, Nat.le_of_ble_eq_true rfl, Nat.le_of_ble_eq_true rfl⟩ ⟨rfl, rfl⟩
set_option maxHeartbeats 4000000 in
set_option maxRecDepth 100000 in
theorem c_D_size {l : Launch} (htr : l.stackTraces = false) {δ : EX} {ad : Nat → Nat} {M : DS} {r : Nat} (hr : r < 6) : CTP l y_D_size cw_D_size (RM 2) δ (dl δ ad M) [.ref (ad 0), .int (nI r)] (.inr (some (.int (nI ((M r).1 + 16 * (M r).2.1 + 256 * cnt (M r).2.2.2 64))))) := by
  refine CT.ofP (lv := [(0, .ref (ad 0)), (1, .int (nI r))]) (Or.inl ⟨rfl, rfl⟩) (by decide) htr rfl (Nat.le_of_ble_eq_true rfl) (fun κ hl X => ?_)
  subst hl
  refine g_iload_n X 1 d_D_size_0 rfl rfl ?_
  refine g_SP X KOk.p s_D_20 (c_D_reqReg htr hr) d_D_size_1 rfl ⟨Nat.le_of_ble_eq_true rfl, Nat.le_of_ble_eq_true rfl, Nat.le_of_ble_eq_true rfl, Nat.le_of_ble_eq_true rfl⟩ ?_
  refine g_aload_n X 0 d_D_size_4 rfl rfl ?_
  refine r_regs X d_D_size_5 ?_
  refine g_iload_n X 1 d_D_size_8 rfl rfl ?_
  refine r_aald X rfl (by omega) d_D_size_9 ?_
  refine g_astore_n X 2 d_D_size_10 rfl (by decide) ?_
  refine g_aload_n X 2 d_D_size_11 rfl rfl ?_
  refine r_rows X kf_D_58 d_D_size_12 (by omega) ?_
  refine g_bipush X (v := nI 16) d_D_size_15 (by decide) ?_
  refine g_aload_n X 2 d_D_size_17 rfl rfl ?_
  refine r_cols X kf_D_62 d_D_size_18 (by omega) ?_
  refine g_imul X d_D_size_21 ?_
  refine g_iadd X d_D_size_22 ?_
  refine g_sipush X (v := nI 256) d_D_size_23 (by decide) ?_
  refine g_aload_n X 2 d_D_size_26 rfl rfl ?_
  refine g_VP X KOk.p v_D_65 (dl_m (by omega)) rfl (c_M_count htr (by omega)) d_D_size_27 rfl ⟨Nat.le_of_ble_eq_true rfl, Nat.le_of_ble_eq_true rfl, Nat.le_of_ble_eq_true rfl, Nat.le_of_ble_eq_true rfl⟩ ?_
  refine g_imul X d_D_size_30 ?_
  refine g_iadd X d_D_size_31 ?_
  refine g_ei (y := nI ((M r).1 + 16 * (M r).2.1 + 256 * cnt (M r).2.2.2 64)) (by rw [pk_mul, pk_mul, nI_add, nI_add]) ?_
  exact g_iret X KOk.p d_D_size_32 ⟨rfl, rfl⟩
set_option maxHeartbeats 4000000 in
set_option maxRecDepth 100000 in
theorem c_D_size_x {l : Launch} (htr : l.stackTraces = false) {δ : EX} {ad : Nat → Nat} {M : DS} {x : Int32} (hx : bR x) : CTP l y_D_size cw_D_size (RM 2) δ (dl δ ad M) [.ref (ad 0), .int x] (.inl 1) := by
  refine CT.ofP (lv := [(0, .ref (ad 0)), (1, .int x)]) (Or.inl ⟨rfl, rfl⟩) (by decide) htr rfl (Nat.le_of_ble_eq_true rfl) (fun κ hl X => ?_)
  subst hl
  refine g_iload_n X 1 d_D_size_0 rfl rfl ?_
  exact g_ST X KOk.p s_D_20 (c_D_reqReg_x htr hx) d_D_size_1 rfl ⟨Nat.le_of_ble_eq_true rfl, Nat.le_of_ble_eq_true rfl, Nat.le_of_ble_eq_true rfl, Nat.le_of_ble_eq_true rfl⟩ ⟨rfl, rfl⟩
end PA
