section SE
theorem abL_0 {x : Int64} (h : ¬ x = 0) : ¬ abL x = 0 := by
  unfold abL
  split
  · exact h
  · intro q
    apply h
    have := congrArg (fun z => -z) q
    simpa using this
set_option maxHeartbeats 4000000 in
set_option maxRecDepth 100000 in
theorem c_D_times {l : Launch} (htr : l.stackTraces = false) {δ : EX} {ad : Nat → Nat} {M : DS} {x y : Int64} : CTP l y_D_times cw_D_times (RM 1) δ (dl δ ad M) [.long x, .long y] (oL (tiS x y)) := by
  refine CT.ofP (lv := [(0, .long x), (2, .long y)]) (Or.inl ⟨rfl, rfl⟩) (by decide) htr rfl (Nat.le_of_ble_eq_true rfl) (fun κ hl X => ?_)
  subst hl
  refine g_lload_n X 0 d_D_times_0 rfl rfl ?_
  refine g_lconst X (v := 0) d_D_times_1 (by decide) ?_
  refine g_lcmp X d_D_times_2 ?_
  refine g_if_eq X 32 d_D_times_3 (by decide) (fun hc => ?_) (fun hc => ?_)
  · have h := (lg_cmp_eq _ _).mp hc
    refine g_lload_n X 0 d_D_times_32 rfl rfl ?_
    refine g_lload_n X 2 d_D_times_33 rfl rfl ?_
    refine g_lmul X d_D_times_34 ?_
    exact g_lret X KOk.p d_D_times_35 ⟨by simp [tiS, h, oL], rfl⟩
  · have h : ¬ x = 0 := fun q => hc ((lg_cmp_eq _ _).mpr q)
    refine g_lload_n X 2 d_D_times_6 rfl rfl ?_
    refine g_labs X kl_D_175 d_D_times_7 ⟨Nat.le_of_ble_eq_true rfl, Nat.le_of_ble_eq_true rfl, Nat.le_of_ble_eq_true rfl, Nat.le_of_ble_eq_true rfl⟩ ?_
    refine g_ldc2 X d_D_times_10 kq_D_179 ?_
    refine g_lload_n X 0 d_D_times_13 rfl rfl ?_
    refine g_labs X kl_D_175 d_D_times_14 ⟨Nat.le_of_ble_eq_true rfl, Nat.le_of_ble_eq_true rfl, Nat.le_of_ble_eq_true rfl, Nat.le_of_ble_eq_true rfl⟩ ?_
    refine g_ldiv X d_D_times_17 (abL_0 h) ?_
    refine g_lcmp X d_D_times_18 ?_
    refine g_if_le X 32 d_D_times_19 (by decide) (fun hd => ?_) (fun hd => ?_)
    · have h2 := Int64.not_lt.mpr ((lg_cmp_le _ _).mp hd)
      refine g_lload_n X 0 d_D_times_32 rfl rfl ?_
      refine g_lload_n X 2 d_D_times_33 rfl rfl ?_
      refine g_lmul X d_D_times_34 ?_
      exact g_lret X KOk.p d_D_times_35 ⟨by simp only [tiS]; rw [if_neg (fun q => h2 q.2)]; rfl, rfl⟩
    · have h2 := Int64.not_le.mp (fun q => hd ((lg_cmp_le _ _).mpr q))
      exact x_4 X kr_D_181 d_D_times_22 d_D_times_25 d_D_times_26 d_D_times_28 d_D_times_31 ⟨Nat.le_of_ble_eq_true rfl, Nat.le_of_ble_eq_true rfl, Nat.le_of_ble_eq_true rfl, Nat.le_of_ble_eq_true rfl⟩ ⟨by simp only [tiS]; rw [if_pos ⟨h, h2⟩]; rfl, rfl⟩
set_option maxHeartbeats 4000000 in
set_option maxRecDepth 100000 in
theorem c_D_sumOver {l : Launch} (htr : l.stackTraces = false) {δ : EX} {ad : Nat → Nat} {M : DS} {k : Nat} {x y : Int64} (hk : k < 4) : CTP l y_D_sumOver cw_D_sumOver (RM 2) δ (dl δ ad M) [.int (nI k), .long x, .long y] (oL (suS k x y)) := by
  refine CT.ofP (lv := [(0, .int (nI k)), (1, .long x), (3, .long y)]) (Or.inl ⟨rfl, rfl⟩) (by decide) htr rfl (Nat.le_of_ble_eq_true rfl) (fun κ hl X => ?_)
  subst hl
  refine g_iload_n X 0 d_D_sumOver_0 rfl rfl ?_
  obtain rfl | rfl | rfl | rfl : k = 0 ∨ k = 1 ∨ k = 2 ∨ k = 3 := by omega
  · refine g_tin X (off := 27) 28 d_D_sumOver_1 (by decide) (by decide) (by decide) (by decide) ?_
    refine g_lload_n X 1 d_D_sumOver_28 rfl rfl ?_
    refine g_lload_n X 3 d_D_sumOver_29 rfl rfl ?_
    have hC := c_D_plus htr (δ := δ) (ad := ad) (M := M) (x := x) (y := y)
    cases hv : plS x y with
    | none =>
      rw [hv] at hC
      exact g_ST X KOk.p s_D_149 (hC) d_D_sumOver_30 rfl ⟨Nat.le_of_ble_eq_true rfl, Nat.le_of_ble_eq_true rfl, Nat.le_of_ble_eq_true rfl, Nat.le_of_ble_eq_true rfl⟩ ⟨by simp [suS, hv, oL], rfl⟩
    | some v =>
      rw [hv] at hC
      refine g_SP X KOk.p s_D_149 (hC) d_D_sumOver_30 rfl ⟨Nat.le_of_ble_eq_true rfl, Nat.le_of_ble_eq_true rfl, Nat.le_of_ble_eq_true rfl, Nat.le_of_ble_eq_true rfl⟩ ?_
      exact g_lret X KOk.p d_D_sumOver_33 ⟨by simp [suS, hv, oL], rfl⟩
  · refine g_tin X (off := 33) 34 d_D_sumOver_1 (by decide) (by decide) (by decide) (by decide) ?_
    refine g_lload_n X 1 d_D_sumOver_34 rfl rfl ?_
    refine g_lload_n X 3 d_D_sumOver_35 rfl rfl ?_
    refine g_lmin X kl_D_153 d_D_sumOver_36 ⟨Nat.le_of_ble_eq_true rfl, Nat.le_of_ble_eq_true rfl, Nat.le_of_ble_eq_true rfl, Nat.le_of_ble_eq_true rfl⟩ ?_
    exact g_lret X KOk.p d_D_sumOver_39 ⟨by simp [suS, oL], rfl⟩
  · refine g_tin X (off := 39) 40 d_D_sumOver_1 (by decide) (by decide) (by decide) (by decide) ?_
    refine g_lload_n X 1 d_D_sumOver_40 rfl rfl ?_
    refine g_lconst X (v := 0) d_D_sumOver_41 (by decide) ?_
    refine g_lcmp X d_D_sumOver_42 ?_
    refine g_if_ne X 52 d_D_sumOver_43 (by decide) (fun hc => ?_) (fun hc => ?_)
    · have h : ¬ x = 0 := fun q => hc ((lg_cmp_eq _ _).mpr q)
      refine g_lconst X (v := 1) d_D_sumOver_52 (by decide) ?_
      refine g_goto X 57 d_D_sumOver_53 (by decide) ?_
      exact g_lret X KOk.p d_D_sumOver_57 ⟨by simp [suS, oL, h], rfl⟩
    · have h := (lg_cmp_eq _ _).mp hc
      refine g_lload_n X 3 d_D_sumOver_46 rfl rfl ?_
      refine g_lconst X (v := 0) d_D_sumOver_47 (by decide) ?_
      refine g_lcmp X d_D_sumOver_48 ?_
      refine g_if_eq X 56 d_D_sumOver_49 (by decide) (fun hd => ?_) (fun hd => ?_)
      · have h2 := (lg_cmp_eq _ _).mp hd
        refine g_lconst X (v := 0) d_D_sumOver_56 (by decide) ?_
        exact g_lret X KOk.p d_D_sumOver_57 ⟨by simp [suS, oL, h, h2], rfl⟩
      · have h2 : ¬ y = 0 := fun q => hd ((lg_cmp_eq _ _).mpr q)
        refine g_lconst X (v := 1) d_D_sumOver_52 (by decide) ?_
        refine g_goto X 57 d_D_sumOver_53 (by decide) ?_
        exact g_lret X KOk.p d_D_sumOver_57 ⟨by simp [suS, oL, h2], rfl⟩
  · refine g_tout X 58 d_D_sumOver_1 (by decide) (by decide) ?_
    refine g_lload_n X 1 d_D_sumOver_58 rfl rfl ?_
    refine g_lload_n X 3 d_D_sumOver_59 rfl rfl ?_
    refine g_lmax X kl_D_158 d_D_sumOver_60 ⟨Nat.le_of_ble_eq_true rfl, Nat.le_of_ble_eq_true rfl, Nat.le_of_ble_eq_true rfl, Nat.le_of_ble_eq_true rfl⟩ ?_
    exact g_lret X KOk.p d_D_sumOver_63 ⟨by simp [suS, oL], rfl⟩
set_option maxHeartbeats 4000000 in
set_option maxRecDepth 100000 in
theorem c_D_productOver {l : Launch} (htr : l.stackTraces = false) {δ : EX} {ad : Nat → Nat} {M : DS} {k : Nat} {x y : Int64} (hk : k < 4) : CTP l y_D_productOver cw_D_productOver (RM 2) δ (dl δ ad M) [.int (nI k), .long x, .long y] (oL (prS k x y)) := by
  refine CT.ofP (lv := [(0, .int (nI k)), (1, .long x), (3, .long y)]) (Or.inl ⟨rfl, rfl⟩) (by decide) htr rfl (Nat.le_of_ble_eq_true rfl) (fun κ hl X => ?_)
  subst hl
  refine g_iload_n X 0 d_D_productOver_0 rfl rfl ?_
  obtain rfl | rfl | rfl | rfl : k = 0 ∨ k = 1 ∨ k = 2 ∨ k = 3 := by omega
  · refine g_tin X (off := 27) 28 d_D_productOver_1 (by decide) (by decide) (by decide) (by decide) ?_
    refine g_lload_n X 1 d_D_productOver_28 rfl rfl ?_
    refine g_lload_n X 3 d_D_productOver_29 rfl rfl ?_
    have hC := c_D_times htr (δ := δ) (ad := ad) (M := M) (x := x) (y := y)
    cases hv : tiS x y with
    | none =>
      rw [hv] at hC
      exact g_ST X KOk.p s_D_161 (hC) d_D_productOver_30 rfl ⟨Nat.le_of_ble_eq_true rfl, Nat.le_of_ble_eq_true rfl, Nat.le_of_ble_eq_true rfl, Nat.le_of_ble_eq_true rfl⟩ ⟨by simp [prS, hv, oL], rfl⟩
    | some v =>
      rw [hv] at hC
      refine g_SP X KOk.p s_D_161 (hC) d_D_productOver_30 rfl ⟨Nat.le_of_ble_eq_true rfl, Nat.le_of_ble_eq_true rfl, Nat.le_of_ble_eq_true rfl, Nat.le_of_ble_eq_true rfl⟩ ?_
      exact g_lret X KOk.p d_D_productOver_33 ⟨by simp [prS, hv, oL], rfl⟩
  · refine g_tin X (off := 33) 34 d_D_productOver_1 (by decide) (by decide) (by decide) (by decide) ?_
    refine g_lload_n X 1 d_D_productOver_34 rfl rfl ?_
    refine g_lload_n X 3 d_D_productOver_35 rfl rfl ?_
    have hC := c_D_plus htr (δ := δ) (ad := ad) (M := M) (x := x) (y := y)
    cases hv : plS x y with
    | none =>
      rw [hv] at hC
      exact g_ST X KOk.p s_D_149 (hC) d_D_productOver_36 rfl ⟨Nat.le_of_ble_eq_true rfl, Nat.le_of_ble_eq_true rfl, Nat.le_of_ble_eq_true rfl, Nat.le_of_ble_eq_true rfl⟩ ⟨by simp [prS, hv, oL], rfl⟩
    | some v =>
      rw [hv] at hC
      refine g_SP X KOk.p s_D_149 (hC) d_D_productOver_36 rfl ⟨Nat.le_of_ble_eq_true rfl, Nat.le_of_ble_eq_true rfl, Nat.le_of_ble_eq_true rfl, Nat.le_of_ble_eq_true rfl⟩ ?_
      exact g_lret X KOk.p d_D_productOver_39 ⟨by simp [prS, hv, oL], rfl⟩
  · refine g_tin X (off := 39) 40 d_D_productOver_1 (by decide) (by decide) (by decide) (by decide) ?_
    refine g_lload_n X 1 d_D_productOver_40 rfl rfl ?_
    refine g_lconst X (v := 0) d_D_productOver_41 (by decide) ?_
    refine g_lcmp X d_D_productOver_42 ?_
    refine g_if_eq X 56 d_D_productOver_43 (by decide) (fun hc => ?_) (fun hc => ?_)
    · have h := (lg_cmp_eq _ _).mp hc
      refine g_lconst X (v := 0) d_D_productOver_56 (by decide) ?_
      exact g_lret X KOk.p d_D_productOver_57 ⟨by simp [prS, oL, h], rfl⟩
    · have h : ¬ x = 0 := fun q => hc ((lg_cmp_eq _ _).mpr q)
      refine g_lload_n X 3 d_D_productOver_46 rfl rfl ?_
      refine g_lconst X (v := 0) d_D_productOver_47 (by decide) ?_
      refine g_lcmp X d_D_productOver_48 ?_
      refine g_if_eq X 56 d_D_productOver_49 (by decide) (fun hd => ?_) (fun hd => ?_)
      · have h2 := (lg_cmp_eq _ _).mp hd
        refine g_lconst X (v := 0) d_D_productOver_56 (by decide) ?_
        exact g_lret X KOk.p d_D_productOver_57 ⟨by simp [prS, oL, h2], rfl⟩
      · have h2 : ¬ y = 0 := fun q => hd ((lg_cmp_eq _ _).mpr q)
        refine g_lconst X (v := 1) d_D_productOver_52 (by decide) ?_
        refine g_goto X 57 d_D_productOver_53 (by decide) ?_
        exact g_lret X KOk.p d_D_productOver_57 ⟨by simp [prS, oL, h, h2], rfl⟩
  · refine g_tout X 58 d_D_productOver_1 (by decide) (by decide) ?_
    refine g_lload_n X 1 d_D_productOver_58 rfl rfl ?_
    refine g_lload_n X 3 d_D_productOver_59 rfl rfl ?_
    refine g_lmin X kl_D_153 d_D_productOver_60 ⟨Nat.le_of_ble_eq_true rfl, Nat.le_of_ble_eq_true rfl, Nat.le_of_ble_eq_true rfl, Nat.le_of_ble_eq_true rfl⟩ ?_
    exact g_lret X KOk.p d_D_productOver_63 ⟨by simp [prS, oL], rfl⟩
end SE
