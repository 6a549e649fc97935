section GC3
variable {κ : KX} {own : String} {cc : ByteArray} {nL : Nat} {rt : Option FieldType} {δ : EX} {rm : Room} {A0 : Nat → Prop} {hh : List (Nat × Nat × Nat × Nat)} {K : Heap → List Loc → Prop} {Q : State → Prop} {cs sl : Nat} {ws : va_W} {lv : List (Nat × Value)} {st : List Value} {pc : Nat} {ad : Nat → Nat} {M : DS}
theorem g_wk {ws' : va_W} (h : ∀ H, va_P δ.1 vwCl ws H → va_P δ.1 vwCl ws' H) (n : G κ nL δ K Q cs sl ws' lv st pc) : G κ nL δ K Q cs sl ws lv st pc := fun H locs ls hl hP hK => n H locs ls hl (h H hP) hK
/-- the spare matrix and a register change places -/
def sw (to k : Nat) : Nat := if k = to then 6 else if k = 6 then to else k
def swB (to i : Nat) : Nat := if 2 ≤ i then 3 * sw to ((i - 2) / 3) + 2 + (i - 2) % 3 else i
theorem sw_lt {to k : Nat} (h : to < 6) (hk : k < 7) : sw to k < 7 := by
  unfold sw
  split
  · omega
  · split <;> omega
theorem sw_sw {to k : Nat} (h : to < 6) : sw to (sw to k) = k := by
  unfold sw
  by_cases h1 : k = to
  · subst h1
    have : ¬ 6 = k := by omega
    simp [this]
  · by_cases h2 : k = 6
    · subst h2
      simp [h1]
    · simp [h1, h2]
theorem swB_2 {to r c : Nat} (hc : c < 3) : swB to (3 * r + 2 + c) = 3 * sw to r + 2 + c := by
  have h1 : (3 * r + 2 + c - 2) / 3 = r := by omega
  have h2 : (3 * r + 2 + c - 2) % 3 = c := by omega
  have h3 : 2 ≤ 3 * r + 2 + c := by omega
  simp only [swB, h1, h2, h3, if_true]
theorem swB_lt {to i : Nat} (h : to < 6) (hi : i < 23) : swB to i < 23 := by
  by_cases h2 : 2 ≤ i
  · have e : i = 3 * ((i - 2) / 3) + 2 + (i - 2) % 3 := by omega
    rw [e, swB_2 (by omega)]
    have := sw_lt (to := to) (k := (i - 2) / 3) h (by omega)
    omega
  · simp only [swB, h2, if_false]; omega
theorem swB_swB {to i : Nat} (h : to < 6) : swB to (swB to i) = i := by
  by_cases h2 : 2 ≤ i
  · have e : i = 3 * ((i - 2) / 3) + 2 + (i - 2) % 3 := by omega
    rw [e, swB_2 (by omega), swB_2 (by omega), sw_sw h]
  · simp only [swB, h2, if_false]
theorem Inj_sw {to : Nat} (h : to < 6) (hi : Inj ad) : Inj (fun i => ad (swB to i)) := by
  intro i j h1 h2 h3
  have := hi _ _ (swB_lt h h1) (swB_lt h h2) h3
  have e := congrArg (swB to) this
  rw [swB_swB h, swB_swB h] at e
  exact e
theorem Ar_sw {to : Nat} (h : to < 6) : Ar (fun i => ad (swB to i)) = Ar ad := by
  funext q
  apply propext
  constructor
  · rintro ⟨i, h1, h2⟩
    exact ⟨swB to i, swB_lt h h1, h2⟩
  · rintro ⟨i, h1, h2⟩
    exact ⟨swB to i, swB_lt h h1, by show q = ad (swB to (swB to i)); rw [swB_swB h]; exact h2⟩
theorem mq_sw {to r : Nat} : mq (fun i => ad (swB to i)) r = mq ad (sw to r) := by
  unfold mq
  have := swB_2 (to := to) (r := r) (c := 0) (by omega)
  exact congrArg ad this
theorem vq_sw {to r : Nat} : vq (fun i => ad (swB to i)) r = vq ad (sw to r) := by
  unfold vq
  have := swB_2 (to := to) (r := r) (c := 1) (by omega)
  exact congrArg ad this
theorem fq_sw {to r : Nat} : fq (fun i => ad (swB to i)) r = fq ad (sw to r) := by
  unfold fq
  have := swB_2 (to := to) (r := r) (c := 2) (by omega)
  exact congrArg ad this
theorem df_sw {to i : Nat} (h : 2 ≤ i) : df δ (fun i => ad (swB to i)) (fun k => M (sw to k)) i = df δ ad M (swB to i) := by
  have e : i = 3 * ((i - 2) / 3) + 2 + (i - 2) % 3 := by omega
  generalize (i - 2) / 3 = r at e
  have hc : (i - 2) % 3 < 3 := by omega
  generalize (i - 2) % 3 = c at e hc
  subst e
  rw [swB_2 hc]
  obtain rfl | rfl | rfl : c = 0 ∨ c = 1 ∨ c = 2 := by omega
  · have e1 : 3 * r + 2 + 0 = 3 * r + 2 := rfl
    have e2 : 3 * sw to r + 2 + 0 = 3 * sw to r + 2 := rfl
    rw [e1, e2, df_m, df_m, vq_sw, fq_sw]
  · have e1 : 3 * r + 2 + 1 = 3 * r + 3 := rfl
    have e2 : 3 * sw to r + 2 + 1 = 3 * sw to r + 3 := rfl
    rw [e1, e2, df_v, df_v]
  · have e1 : 3 * r + 2 + 2 = 3 * r + 4 := rfl
    have e2 : 3 * sw to r + 2 + 2 = 3 * sw to r + 4 := rfl
    rw [e1, e2, df_f, df_f]
theorem keep_P {to : Nat} (h : to < 6) {H : Heap} (hP : va_P δ.1 vwCl (((dl δ ad M).set 0 (ad 0, .inr (0, [.ref (ad 1), .ref (mq ad to)]))).set 1 (ad 1, .inl (δ.2 3, 6, .inr (.inr (.inr (.inr (va_up (fun r => if r < 6 then some (mq ad r) else none) to (some (mq ad 6))))))))) H) :
    va_P δ.1 vwCl (dl δ (fun i => ad (swB to i)) (fun k => M (sw to k))) H := by
  intro i q hi
  have hl : i < 23 := by
    have := (List.getElem?_eq_some_iff.mp hi).1
    simpa [dl, wl] using this
  rw [show dl δ (fun i => ad (swB to i)) (fun k => M (sw to k)) = wl (fun i => ad (swB to i)) 23 (df δ (fun i => ad (swB to i)) (fun k => M (sw to k))) from rfl, wl_get hl] at hi
  cases hi
  refine hP (swB to i) _ ?_
  by_cases h2 : 2 ≤ i
  · have h3 : 2 ≤ swB to i := by
      have e : i = 3 * ((i - 2) / 3) + 2 + (i - 2) % 3 := by omega
      rw [e, swB_2 (by omega)]
      omega
    rw [List.getElem?_set_ne (by omega), List.getElem?_set_ne (by omega), df_sw h2]
    exact wl_get (swB_lt h hl)
  · obtain rfl | rfl : i = 0 ∨ i = 1 := by omega
    · have e : swB to 0 = 0 := rfl
      rw [e, List.getElem?_set_ne (by omega), List.getElem?_set_self (by simp [dl, wl])]
      have : mq (fun i => ad (swB to i)) 6 = mq ad to := by
        rw [mq_sw]
        have : ¬ 6 = to := by omega
        simp [sw, this]
      simp only [df, if_true, this]
      rfl
    · have e : swB to 1 = 1 := rfl
      rw [e, List.getElem?_set_self (by simp [dl, wl])]
      have hf : (fun r => if r < 6 then some (mq (fun i => ad (swB to i)) r) else none) = va_up (fun r => if r < 6 then some (mq ad r) else none) to (some (mq ad 6)) := by
        funext r
        rw [mq_sw]
        unfold va_up sw
        by_cases h1 : r = to
        · subst h1
          simp [h]
        · by_cases h6 : r < 6
          · have : ¬ r = 6 := by omega
            simp [h1, h6, this]
          · simp [h1, h6]
      simp only [df, hf]
      rfl
set_option maxHeartbeats 4000000 in
set_option maxRecDepth 100000 in
theorem c_D_keep {l : Launch} (htr : l.stackTraces = false) {δ : EX} {ad : Nat → Nat} {M : DS} (hinj : Inj ad) {to : Nat} (hto : to < 6) : CTN l y_D_keep cw_D_keep (RM 1) δ (Ar ad) (dl δ ad M) [.ref (ad 0), .int (nI to)] (some (.int (nI (cnt (M 6).2.2.2 64)))) (dl δ (fun i => ad (swB to i)) (fun k => M (sw to k))) := by
  refine CT.ofN (lv := [(0, .ref (ad 0)), (1, .int (nI to))]) (Or.inl ⟨rfl, rfl⟩) (by decide) htr rfl (Nat.le_of_ble_eq_true rfl) (fun κ hl X => ?_)
  subst hl
  refine g_aload_n X 0 d_D_keep_0 rfl rfl ?_
  refine r_spare X d_D_keep_1 ?_
  refine g_astore_n X 2 d_D_keep_4 rfl (by decide) ?_
  refine g_aload_n X 0 d_D_keep_5 rfl rfl ?_
  refine g_aload_n X 0 d_D_keep_6 rfl rfl ?_
  refine r_regs X d_D_keep_7 ?_
  refine g_iload_n X 1 d_D_keep_10 rfl rfl ?_
  refine r_aald X rfl (by omega) d_D_keep_11 ?_
  refine g_put X in_D rfl t_D_ok n_D (Ar_D hinj) dl_0 (k := 1) (ty := .object R_M) (by decide) rfl kf_D_16 rfl (by decide +kernel) rfl rfl (Nat.lt_of_lt_of_eq (by decide : _ < 2) rfl) d_D_keep_12 ?_
  refine g_aload_n X 0 d_D_keep_15 rfl rfl ?_
  refine g_get X in_D rfl (q0 := 0) (List.getElem?_set_self (by simp [dl, wl])) (k := 0) (by decide) rfl kf_D_11 rfl d_D_keep_16 ?_
  refine g_iload_n X 1 d_D_keep_19 rfl rfl ?_
  refine g_aload_n X 2 d_D_keep_20 rfl rfl ?_
  refine g_aast X (va_D.set (Ar_D hinj) dl_0) (q0 := 1) (qk := 20) (ci := 1) ((List.getElem?_set_ne (by decide)).trans dl_1) ((List.getElem?_set_ne (by decide)).trans (dl_m (r := 6) (by decide))) rfl rfl hto (by decide) d_D_keep_21 ?_
  refine g_wk (fun H hP => keep_P hto hP) ?_
  refine g_aload_n X 2 d_D_keep_22 rfl rfl ?_
  refine g_es (st' := [.ref (mq (fun i => ad (swB to i)) to)]) (by rw [mq_sw]; simp [sw]) ?_
  have hC := c_M_count htr (δ := δ) (ad := fun i => ad (swB to i)) (M := fun k => M (sw to k)) (r := to) (by omega)
  have e : sw to to = 6 := by simp [sw]
  simp only [e] at hC
  refine g_VP X KOk.n v_D_65 (dl_m (by omega)) rfl (hC) d_D_keep_23 rfl ⟨Nat.le_of_ble_eq_true rfl, Nat.le_of_ble_eq_true rfl, Nat.le_of_ble_eq_true rfl, Nat.le_of_ble_eq_true rfl⟩ ?_
  exact g_iret X KOk.n d_D_keep_26 ⟨rfl, rfl⟩
end GC3
