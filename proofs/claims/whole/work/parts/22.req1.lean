section RA
set_option maxHeartbeats 4000000 in
set_option maxRecDepth 100000 in
theorem c_D_reqReg {l : Launch} (htr : l.stackTraces = false) {δ : EX} {ad : Nat → Nat} {M : DS} {r : Nat} (hr : r < 6) : CTP l y_D_requireRegister cw_D_requireRegister (RM 0) δ (dl δ ad M) [.int (nI r)] (.inr none) := by
  refine CT.ofP (lv := [(0, .int (nI r))]) (Or.inl ⟨rfl, rfl⟩) (by decide) htr rfl (Nat.le_of_ble_eq_true rfl) (fun κ hl X => ?_)
  subst hl
  refine g_iload_n X 0 d_D_requireRegister_0 rfl rfl ?_
  refine g_if_lt X 10 d_D_requireRegister_1 (by decide) (fun hc => ?_) (fun hc => ?_)
  · exact absurd hc (nI_pos (by omega))
  · clear hc
    refine g_iload_n X 0 d_D_requireRegister_4 rfl rfl ?_
    refine g_bipush X (v := nI 6) d_D_requireRegister_5 (by decide) ?_
    refine g_icmp_lt X 20 d_D_requireRegister_7 (by decide) (fun hc => ?_) (fun hc => ?_)
    · exact g_vret X KOk.p d_D_requireRegister_20 ⟨rfl, rfl⟩
    · exact absurd (nI_lt hr (by decide)) hc
set_option maxHeartbeats 4000000 in
set_option maxRecDepth 100000 in
theorem c_D_reqReg_x {l : Launch} (htr : l.stackTraces = false) {δ : EX} {ad : Nat → Nat} {M : DS} {x : Int32} (hx : x < 0 ∨ nI 6 ≤ x) : CTP l y_D_requireRegister cw_D_requireRegister (RM 0) δ (dl δ ad M) [.int x] (.inl 1) := by
  refine CT.ofP (lv := [(0, .int x)]) (Or.inl ⟨rfl, rfl⟩) (by decide) htr rfl (Nat.le_of_ble_eq_true rfl) (fun κ hl X => ?_)
  subst hl
  refine g_iload_n X 0 d_D_requireRegister_0 rfl rfl ?_
  refine g_if_lt X 10 d_D_requireRegister_1 (by decide) (fun hc => ?_) (fun hc => ?_)
  · exact x_1 X kr_D_191 d_D_requireRegister_10 d_D_requireRegister_13 d_D_requireRegister_14 d_D_requireRegister_16 d_D_requireRegister_19 ⟨Nat.le_of_ble_eq_true rfl, Nat.le_of_ble_eq_true rfl, Nat.le_of_ble_eq_true rfl, Nat.le_of_ble_eq_true rfl⟩ ⟨rfl, rfl⟩
  · refine g_iload_n X 0 d_D_requireRegister_4 rfl rfl ?_
    refine g_bipush X (v := nI 6) d_D_requireRegister_5 (by decide) ?_
    refine g_icmp_lt X 20 d_D_requireRegister_7 (by decide) (fun hd => ?_) (fun hd => ?_)
    · rcases hx with h | h
      · exact absurd h hc
      · exact absurd hd (Int32.not_lt.mpr h)
    · exact x_1 X kr_D_191 d_D_requireRegister_10 d_D_requireRegister_13 d_D_requireRegister_14 d_D_requireRegister_16 d_D_requireRegister_19 ⟨Nat.le_of_ble_eq_true rfl, Nat.le_of_ble_eq_true rfl, Nat.le_of_ble_eq_true rfl, Nat.le_of_ble_eq_true rfl⟩ ⟨rfl, rfl⟩
set_option maxHeartbeats 4000000 in
set_option maxRecDepth 100000 in
theorem c_D_reqSem {l : Launch} (htr : l.stackTraces = false) {δ : EX} {ad : Nat → Nat} {M : DS} {k : Nat} (hk : k < 4) : CTP l y_D_requireSemiring cw_D_requireSemiring (RM 0) δ (dl δ ad M) [.int (nI k)] (.inr none) := by
  refine CT.ofP (lv := [(0, .int (nI k))]) (Or.inl ⟨rfl, rfl⟩) (by decide) htr rfl (Nat.le_of_ble_eq_true rfl) (fun κ hl X => ?_)
  subst hl
  refine g_iload_n X 0 d_D_requireSemiring_0 rfl rfl ?_
  refine g_if_lt X 9 d_D_requireSemiring_1 (by decide) (fun hc => ?_) (fun hc => ?_)
  · exact absurd hc (nI_pos (by omega))
  · clear hc
    refine g_iload_n X 0 d_D_requireSemiring_4 rfl rfl ?_
    refine g_iconst X (v := nI 3) d_D_requireSemiring_5 (by decide) ?_
    refine g_icmp_le X 19 d_D_requireSemiring_6 (by decide) (fun hc => ?_) (fun hc => ?_)
    · exact g_vret X KOk.p d_D_requireSemiring_19 ⟨rfl, rfl⟩
    · exact absurd (nI_le (by omega) (by decide)) hc
set_option maxHeartbeats 4000000 in
set_option maxRecDepth 100000 in
theorem c_D_reqSem_x {l : Launch} (htr : l.stackTraces = false) {δ : EX} {ad : Nat → Nat} {M : DS} {x : Int32} (hx : x < 0 ∨ nI 3 < x) : CTP l y_D_requireSemiring cw_D_requireSemiring (RM 0) δ (dl δ ad M) [.int x] (.inl 1) := by
  refine CT.ofP (lv := [(0, .int x)]) (Or.inl ⟨rfl, rfl⟩) (by decide) htr rfl (Nat.le_of_ble_eq_true rfl) (fun κ hl X => ?_)
  subst hl
  refine g_iload_n X 0 d_D_requireSemiring_0 rfl rfl ?_
  refine g_if_lt X 9 d_D_requireSemiring_1 (by decide) (fun hc => ?_) (fun hc => ?_)
  · exact x_1 X kr_D_194 d_D_requireSemiring_9 d_D_requireSemiring_12 d_D_requireSemiring_13 d_D_requireSemiring_15 d_D_requireSemiring_18 ⟨Nat.le_of_ble_eq_true rfl, Nat.le_of_ble_eq_true rfl, Nat.le_of_ble_eq_true rfl, Nat.le_of_ble_eq_true rfl⟩ ⟨rfl, rfl⟩
  · refine g_iload_n X 0 d_D_requireSemiring_4 rfl rfl ?_
    refine g_iconst X (v := nI 3) d_D_requireSemiring_5 (by decide) ?_
    refine g_icmp_le X 19 d_D_requireSemiring_6 (by decide) (fun hd => ?_) (fun hd => ?_)
    · rcases hx with h | h
      · exact absurd h hc
      · exact absurd h (Int32.not_lt.mpr hd)
    · exact x_1 X kr_D_194 d_D_requireSemiring_9 d_D_requireSemiring_12 d_D_requireSemiring_13 d_D_requireSemiring_15 d_D_requireSemiring_18 ⟨Nat.le_of_ble_eq_true rfl, Nat.le_of_ble_eq_true rfl, Nat.le_of_ble_eq_true rfl, Nat.le_of_ble_eq_true rfl⟩ ⟨rfl, rfl⟩
set_option maxHeartbeats 4000000 in
set_option maxRecDepth 100000 in
theorem c_D_reqHow {l : Launch} (htr : l.stackTraces = false) {δ : EX} {ad : Nat → Nat} {M : DS} {h n : Nat} (hh : h ≤ n) (hn : n < 8) : CTP l y_D_requireHow cw_D_requireHow (RM 0) δ (dl δ ad M) [.int (nI h), .int (nI n)] (.inr none) := by
  refine CT.ofP (lv := [(0, .int (nI h)), (1, .int (nI n))]) (Or.inl ⟨rfl, rfl⟩) (by decide) htr rfl (Nat.le_of_ble_eq_true rfl) (fun κ hl X => ?_)
  subst hl
  refine g_iload_n X 0 d_D_requireHow_0 rfl rfl ?_
  refine g_if_lt X 9 d_D_requireHow_1 (by decide) (fun hc => ?_) (fun hc => ?_)
  · exact absurd hc (nI_pos (by omega))
  · clear hc
    refine g_iload_n X 0 d_D_requireHow_4 rfl rfl ?_
    refine g_iload_n X 1 d_D_requireHow_5 rfl rfl ?_
    refine g_icmp_le X 19 d_D_requireHow_6 (by decide) (fun hc => ?_) (fun hc => ?_)
    · exact g_vret X KOk.p d_D_requireHow_19 ⟨rfl, rfl⟩
    · exact absurd (nI_le hh (by omega)) hc
set_option maxHeartbeats 4000000 in
set_option maxRecDepth 100000 in
theorem c_D_reqHow_x {l : Launch} (htr : l.stackTraces = false) {δ : EX} {ad : Nat → Nat} {M : DS} {x : Int32} {n : Nat} (hx : x < 0 ∨ nI n < x) : CTP l y_D_requireHow cw_D_requireHow (RM 0) δ (dl δ ad M) [.int x, .int (nI n)] (.inl 1) := by
  refine CT.ofP (lv := [(0, .int x), (1, .int (nI n))]) (Or.inl ⟨rfl, rfl⟩) (by decide) htr rfl (Nat.le_of_ble_eq_true rfl) (fun κ hl X => ?_)
  subst hl
  refine g_iload_n X 0 d_D_requireHow_0 rfl rfl ?_
  refine g_if_lt X 9 d_D_requireHow_1 (by decide) (fun hc => ?_) (fun hc => ?_)
  · exact x_1 X kr_D_196 d_D_requireHow_9 d_D_requireHow_12 d_D_requireHow_13 d_D_requireHow_15 d_D_requireHow_18 ⟨Nat.le_of_ble_eq_true rfl, Nat.le_of_ble_eq_true rfl, Nat.le_of_ble_eq_true rfl, Nat.le_of_ble_eq_true rfl⟩ ⟨rfl, rfl⟩
  · refine g_iload_n X 0 d_D_requireHow_4 rfl rfl ?_
    refine g_iload_n X 1 d_D_requireHow_5 rfl rfl ?_
    refine g_icmp_le X 19 d_D_requireHow_6 (by decide) (fun hd => ?_) (fun hd => ?_)
    · rcases hx with h | h
      · exact absurd h hc
      · exact absurd h (Int32.not_lt.mpr hd)
    · exact x_1 X kr_D_196 d_D_requireHow_9 d_D_requireHow_12 d_D_requireHow_13 d_D_requireHow_15 d_D_requireHow_18 ⟨Nat.le_of_ble_eq_true rfl, Nat.le_of_ble_eq_true rfl, Nat.le_of_ble_eq_true rfl, Nat.le_of_ble_eq_true rfl⟩ ⟨rfl, rfl⟩
set_option maxHeartbeats 4000000 in
set_option maxRecDepth 100000 in
theorem c_D_reqSide {l : Launch} (htr : l.stackTraces = false) {δ : EX} {ad : Nat → Nat} {M : DS} {m : Nat} (h1 : 1 ≤ m) (h8 : m ≤ 8) : CTP l y_D_requireSide cw_D_requireSide (RM 0) δ (dl δ ad M) [.int (nI m)] (.inr none) := by
  refine CT.ofP (lv := [(0, .int (nI m))]) (Or.inl ⟨rfl, rfl⟩) (by decide) htr rfl (Nat.le_of_ble_eq_true rfl) (fun κ hl X => ?_)
  subst hl
  refine g_iload_n X 0 d_D_requireSide_0 rfl rfl ?_
  refine g_iconst X (v := nI 1) d_D_requireSide_1 (by decide) ?_
  refine g_icmp_lt X 11 d_D_requireSide_2 (by decide) (fun hc => ?_) (fun hc => ?_)
  · exact absurd hc (nI_nlt h1 (by omega))
  · clear hc
    refine g_iload_n X 0 d_D_requireSide_5 rfl rfl ?_
    refine g_bipush X (v := nI 8) d_D_requireSide_6 (by decide) ?_
    refine g_icmp_le X 21 d_D_requireSide_8 (by decide) (fun hc => ?_) (fun hc => ?_)
    · exact g_vret X KOk.p d_D_requireSide_21 ⟨rfl, rfl⟩
    · exact absurd (nI_le h8 (by decide)) hc
set_option maxHeartbeats 4000000 in
set_option maxRecDepth 100000 in
theorem c_D_reqSide_x {l : Launch} (htr : l.stackTraces = false) {δ : EX} {ad : Nat → Nat} {M : DS} {x : Int32} (hx : x < nI 1 ∨ nI 8 < x) : CTP l y_D_requireSide cw_D_requireSide (RM 0) δ (dl δ ad M) [.int x] (.inl 1) := by
  refine CT.ofP (lv := [(0, .int x)]) (Or.inl ⟨rfl, rfl⟩) (by decide) htr rfl (Nat.le_of_ble_eq_true rfl) (fun κ hl X => ?_)
  subst hl
  refine g_iload_n X 0 d_D_requireSide_0 rfl rfl ?_
  refine g_iconst X (v := nI 1) d_D_requireSide_1 (by decide) ?_
  refine g_icmp_lt X 11 d_D_requireSide_2 (by decide) (fun hc => ?_) (fun hc => ?_)
  · exact x_1 X kr_D_198 d_D_requireSide_11 d_D_requireSide_14 d_D_requireSide_15 d_D_requireSide_17 d_D_requireSide_20 ⟨Nat.le_of_ble_eq_true rfl, Nat.le_of_ble_eq_true rfl, Nat.le_of_ble_eq_true rfl, Nat.le_of_ble_eq_true rfl⟩ ⟨rfl, rfl⟩
  · refine g_iload_n X 0 d_D_requireSide_5 rfl rfl ?_
    refine g_bipush X (v := nI 8) d_D_requireSide_6 (by decide) ?_
    refine g_icmp_le X 21 d_D_requireSide_8 (by decide) (fun hd => ?_) (fun hd => ?_)
    · rcases hx with h | h
      · exact absurd h hc
      · exact absurd h (Int32.not_lt.mpr hd)
    · exact x_1 X kr_D_198 d_D_requireSide_11 d_D_requireSide_14 d_D_requireSide_15 d_D_requireSide_17 d_D_requireSide_20 ⟨Nat.le_of_ble_eq_true rfl, Nat.le_of_ble_eq_true rfl, Nat.le_of_ble_eq_true rfl, Nat.le_of_ble_eq_true rfl⟩ ⟨rfl, rfl⟩
set_option maxHeartbeats 4000000 in
set_option maxRecDepth 100000 in
theorem c_D_isValue {l : Launch} (htr : l.stackTraces = false) {δ : EX} {ad : Nat → Nat} {M : DS} {v : Int64} : CTP l y_D_isValue cw_D_isValue (RM 0) δ (dl δ ad M) [.long v] (.inr (some (.int (b2 (inR v))))) := by
  refine CT.ofP (lv := [(0, .long v)]) (Or.inl ⟨rfl, rfl⟩) (by decide) htr rfl (Nat.le_of_ble_eq_true rfl) (fun κ hl X => ?_)
  subst hl
  refine g_lload_n X 0 d_D_isValue_0 rfl rfl ?_
  refine g_ldc2 X d_D_isValue_1 kq_D_187 ?_
  refine g_lcmp X d_D_isValue_4 ?_
  refine g_if_lt X 20 d_D_isValue_5 (by decide) (fun hc => ?_) (fun hc => ?_)
  · have h := (lg_cmp_lt _ _).mp hc
    refine g_iconst X (v := 0) d_D_isValue_20 (by decide) ?_
    exact g_zret X KOk.p (by decide) d_D_isValue_21 ⟨by rw [show inR v = false from by simp [inR]; exact fun q => absurd h (Int64.not_lt.mpr q)]; rfl, rfl⟩
  · have h : -1000000000000 ≤ v := Int64.not_lt.mp (fun q => hc ((lg_cmp_lt _ _).mpr q))
    refine g_lload_n X 0 d_D_isValue_8 rfl rfl ?_
    refine g_ldc2 X d_D_isValue_9 kq_D_179 ?_
    refine g_lcmp X d_D_isValue_12 ?_
    refine g_if_gt X 20 d_D_isValue_13 (by decide) (fun hd => ?_) (fun hd => ?_)
    · have h2 := (lg_cmp_gt _ _).mp hd
      refine g_iconst X (v := 0) d_D_isValue_20 (by decide) ?_
      exact g_zret X KOk.p (by decide) d_D_isValue_21 ⟨by rw [show inR v = false from by simp [inR]; exact fun _ => h2]; rfl, rfl⟩
    · have h2 : v ≤ 1000000000000 := Int64.not_lt.mp (fun q => hd ((lg_cmp_gt _ _).mpr q))
      refine g_iconst X (v := 1) d_D_isValue_16 (by decide) ?_
      refine g_goto X 21 d_D_isValue_17 (by decide) ?_
      exact g_zret X KOk.p (by decide) d_D_isValue_21 ⟨by rw [show inR v = true from by simp [inR, h, h2]]; rfl, rfl⟩
set_option maxHeartbeats 4000000 in
set_option maxRecDepth 100000 in
theorem c_D_reqEntry {l : Launch} (htr : l.stackTraces = false) {δ : EX} {ad : Nat → Nat} {M : DS} {b : Bool} (hb : b = true) : CTP l y_D_requireEntry cw_D_requireEntry (RM 0) δ (dl δ ad M) [.int (b2 b)] (.inr none) := by
  refine CT.ofP (lv := [(0, .int (b2 b))]) (Or.inl ⟨rfl, rfl⟩) (by decide) htr rfl (Nat.le_of_ble_eq_true rfl) (fun κ hl X => ?_)
  subst hl
  refine g_iload_n X 0 d_D_requireEntry_0 rfl rfl ?_
  refine g_if_ne X 14 d_D_requireEntry_1 (by decide) (fun hc => ?_) (fun hc => ?_)
  · exact g_vret X KOk.p d_D_requireEntry_14 ⟨rfl, rfl⟩
  · subst hb
    exact absurd hc (by decide)
set_option maxHeartbeats 4000000 in
set_option maxRecDepth 100000 in
theorem c_D_reqEntry_x {l : Launch} (htr : l.stackTraces = false) {δ : EX} {ad : Nat → Nat} {M : DS} {b : Bool} (hb : b = false) : CTP l y_D_requireEntry cw_D_requireEntry (RM 0) δ (dl δ ad M) [.int (b2 b)] (.inl 3) := by
  refine CT.ofP (lv := [(0, .int (b2 b))]) (Or.inl ⟨rfl, rfl⟩) (by decide) htr rfl (Nat.le_of_ble_eq_true rfl) (fun κ hl X => ?_)
  subst hl
  refine g_iload_n X 0 d_D_requireEntry_0 rfl rfl ?_
  refine g_if_ne X 14 d_D_requireEntry_1 (by decide) (fun hc => ?_) (fun hc => ?_)
  · subst hb
    exact absurd (by decide) hc
  · exact x_3 X kr_D_206 d_D_requireEntry_4 d_D_requireEntry_7 d_D_requireEntry_8 d_D_requireEntry_10 d_D_requireEntry_13 ⟨Nat.le_of_ble_eq_true rfl, Nat.le_of_ble_eq_true rfl, Nat.le_of_ble_eq_true rfl, Nat.le_of_ble_eq_true rfl⟩ ⟨rfl, rfl⟩
set_option maxHeartbeats 4000000 in
set_option maxRecDepth 100000 in
theorem c_D_reqFit {l : Launch} (htr : l.stackTraces = false) {δ : EX} {ad : Nat → Nat} {M : DS} {b : Bool} (hb : b = true) : CTP l y_D_requireFit cw_D_requireFit (RM 0) δ (dl δ ad M) [.int (b2 b)] (.inr none) := by
  refine CT.ofP (lv := [(0, .int (b2 b))]) (Or.inl ⟨rfl, rfl⟩) (by decide) htr rfl (Nat.le_of_ble_eq_true rfl) (fun κ hl X => ?_)
  subst hl
  refine g_iload_n X 0 d_D_requireFit_0 rfl rfl ?_
  refine g_if_ne X 14 d_D_requireFit_1 (by decide) (fun hc => ?_) (fun hc => ?_)
  · exact g_vret X KOk.p d_D_requireFit_14 ⟨rfl, rfl⟩
  · subst hb
    exact absurd hc (by decide)
set_option maxHeartbeats 4000000 in
set_option maxRecDepth 100000 in
theorem c_D_reqFit_x {l : Launch} (htr : l.stackTraces = false) {δ : EX} {ad : Nat → Nat} {M : DS} {b : Bool} (hb : b = false) : CTP l y_D_requireFit cw_D_requireFit (RM 0) δ (dl δ ad M) [.int (b2 b)] (.inl 2) := by
  refine CT.ofP (lv := [(0, .int (b2 b))]) (Or.inl ⟨rfl, rfl⟩) (by decide) htr rfl (Nat.le_of_ble_eq_true rfl) (fun κ hl X => ?_)
  subst hl
  refine g_iload_n X 0 d_D_requireFit_0 rfl rfl ?_
  refine g_if_ne X 14 d_D_requireFit_1 (by decide) (fun hc => ?_) (fun hc => ?_)
  · subst hb
    exact absurd (by decide) hc
  · exact x_2 X kr_D_211 d_D_requireFit_4 d_D_requireFit_7 d_D_requireFit_8 d_D_requireFit_10 d_D_requireFit_13 ⟨Nat.le_of_ble_eq_true rfl, Nat.le_of_ble_eq_true rfl, Nat.le_of_ble_eq_true rfl, Nat.le_of_ble_eq_true rfl⟩ ⟨rfl, rfl⟩
set_option maxHeartbeats 4000000 in
set_option maxRecDepth 100000 in
theorem c_D_reqVal {l : Launch} (htr : l.stackTraces = false) {δ : EX} {ad : Nat → Nat} {M : DS} {v : Int64} (hv : inR v = true) : CTP l y_D_requireValue cw_D_requireValue (RM 1) δ (dl δ ad M) [.long v] (.inr none) := by
  refine CT.ofP (lv := [(0, .long v)]) (Or.inl ⟨rfl, rfl⟩) (by decide) htr rfl (Nat.le_of_ble_eq_true rfl) (fun κ hl X => ?_)
  subst hl
  refine g_lload_n X 0 d_D_requireValue_0 rfl rfl ?_
  refine g_SP X KOk.p s_D_164 (c_D_isValue htr) d_D_requireValue_1 rfl ⟨Nat.le_of_ble_eq_true rfl, Nat.le_of_ble_eq_true rfl, Nat.le_of_ble_eq_true rfl, Nat.le_of_ble_eq_true rfl⟩ ?_
  refine g_if_ne X 17 d_D_requireValue_4 (by decide) (fun hc => ?_) (fun hc => ?_)
  · exact g_vret X KOk.p d_D_requireValue_17 ⟨rfl, rfl⟩
  · rw [hv] at hc
    exact absurd hc (by decide)
set_option maxHeartbeats 4000000 in
set_option maxRecDepth 100000 in
theorem c_D_reqVal_x {l : Launch} (htr : l.stackTraces = false) {δ : EX} {ad : Nat → Nat} {M : DS} {v : Int64} (hv : inR v = false) : CTP l y_D_requireValue cw_D_requireValue (RM 1) δ (dl δ ad M) [.long v] (.inl 1) := by
  refine CT.ofP (lv := [(0, .long v)]) (Or.inl ⟨rfl, rfl⟩) (by decide) htr rfl (Nat.le_of_ble_eq_true rfl) (fun κ hl X => ?_)
  subst hl
  refine g_lload_n X 0 d_D_requireValue_0 rfl rfl ?_
  refine g_SP X KOk.p s_D_164 (c_D_isValue htr) d_D_requireValue_1 rfl ⟨Nat.le_of_ble_eq_true rfl, Nat.le_of_ble_eq_true rfl, Nat.le_of_ble_eq_true rfl, Nat.le_of_ble_eq_true rfl⟩ ?_
  refine g_if_ne X 17 d_D_requireValue_4 (by decide) (fun hc => ?_) (fun hc => ?_)
  · rw [hv] at hc
    exact absurd (by decide) hc
  · exact x_1 X kr_D_202 d_D_requireValue_7 d_D_requireValue_10 d_D_requireValue_11 d_D_requireValue_13 d_D_requireValue_16 ⟨Nat.le_of_ble_eq_true rfl, Nat.le_of_ble_eq_true rfl, Nat.le_of_ble_eq_true rfl, Nat.le_of_ble_eq_true rfl⟩ ⟨rfl, rfl⟩
/-- a sum or a product, or the exception for one out of range -/
def oL (o : Option Int64) : OC := match o with
  | some v => .inr (some (.long v))
  | none => .inl 4
set_option maxHeartbeats 4000000 in
set_option maxRecDepth 100000 in
theorem c_D_plus {l : Launch} (htr : l.stackTraces = false) {δ : EX} {ad : Nat → Nat} {M : DS} {x y : Int64} : CTP l y_D_plus cw_D_plus (RM 1) δ (dl δ ad M) [.long x, .long y] (oL (plS x y)) := by
  refine CT.ofP (lv := [(0, .long x), (2, .long y)]) (Or.inl ⟨rfl, rfl⟩) (by decide) htr rfl (Nat.le_of_ble_eq_true rfl) (fun κ hl X => ?_)
  subst hl
  refine g_lload_n X 0 d_D_plus_0 rfl rfl ?_
  refine g_lload_n X 2 d_D_plus_1 rfl rfl ?_
  refine g_ladd X d_D_plus_2 ?_
  refine g_lstore X d_D_plus_3 (by decide) ?_
  refine g_lload X d_D_plus_5 rfl ?_
  refine g_SP X KOk.p s_D_164 (c_D_isValue htr) d_D_plus_7 rfl ⟨Nat.le_of_ble_eq_true rfl, Nat.le_of_ble_eq_true rfl, Nat.le_of_ble_eq_true rfl, Nat.le_of_ble_eq_true rfl⟩ ?_
  refine g_if_ne X 23 d_D_plus_10 (by decide) (fun hc => ?_) (fun hc => ?_)
  · have h : inR (x + y) = true := by
      cases h : inR (x + y)
      · exact absurd (b2_0.mpr h) hc
      · rfl
    refine g_lload X d_D_plus_23 rfl ?_
    exact g_lret X KOk.p d_D_plus_25 ⟨by simp [plS, h, oL], rfl⟩
  · have h : inR (x + y) = false := b2_0.mp hc
    exact x_4 X kr_D_170 d_D_plus_13 d_D_plus_16 d_D_plus_17 d_D_plus_19 d_D_plus_22 ⟨Nat.le_of_ble_eq_true rfl, Nat.le_of_ble_eq_true rfl, Nat.le_of_ble_eq_true rfl, Nat.le_of_ble_eq_true rfl⟩ ⟨by simp [plS, h, oL], rfl⟩
end RA
