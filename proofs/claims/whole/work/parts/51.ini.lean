section INI
/-! the constructors -/
theorem kio : Cond.instanceMethod Lib.objectInit ∈ gl := gl_T (List.mem_append_left _ (List.mem_of_getElem? (i := 18) (by decide +kernel))) rfl
theorem kco : Cond.code Lib.objectInit ⟨#[0xb1]⟩ 1 none ∈ gl := gl_T (List.mem_append_left _ (List.mem_of_getElem? (i := 19) (by decide +kernel))) rfl
theorem kal : Cond.arrayClass .long ∈ gl := gl_T (List.mem_append_left _ (List.mem_of_getElem? (i := 42) (by decide +kernel))) rfl
theorem kaz : Cond.arrayClass .boolean ∈ gl := gl_T (List.mem_append_left _ (List.mem_of_getElem? (i := 43) (by decide +kernel))) rfl
theorem kai : Cond.arrayClass .int ∈ gl := by decide +kernel
theorem knD : Cond.instantiable R_D 2 ∈ gl := gl_T (List.mem_append_left _ (List.mem_of_getElem? (i := 13) (by decide +kernel))) rfl
theorem knM : Cond.instantiable R_M 4 ∈ gl := gl_T (List.mem_append_left _ (List.mem_of_getElem? (i := 22) (by decide +kernel))) rfl
theorem knR : Cond.instantiable R_R 10 ∈ gl := by decide +kernel
def RI (d mc ms : Nat) : Room := { frames := 2 + d, cells := mc, slots := ms, locals := 60 + 40 * d }
def M0 : Mx := (1, 1, fun _ => 0, fun _ => false)
theorem va_D_addr {A : Nat → Prop} {ws ws' : va_W} (hD : va_D A ws) (h : ws.map Prod.fst = ws'.map Prod.fst) : va_D A ws' := by
  have key : ∀ (k : Nat) (q : Nat × va_E), ws'[k]? = some q → ∃ p, ws[k]? = some p ∧ p.1 = q.1 := fun k q hk => by
    have h1 : (ws'.map Prod.fst)[k]? = some q.1 := by rw [List.getElem?_map, hk]; rfl
    rw [← h, List.getElem?_map] at h1
    cases hw : ws[k]? with
    | none => rw [hw] at h1; cases h1
    | some p => rw [hw] at h1; exact ⟨p, rfl, Option.some.inj h1⟩
  refine ⟨fun i j p q hi hj e => ?_, fun k q hk => ?_⟩
  · obtain ⟨p', a1, a2⟩ := key i p hi
    obtain ⟨q', c1, c2⟩ := key j q hj
    exact hD.1 i j p' q' a1 c1 (a2.trans (e.trans c2.symm))
  · obtain ⟨q', c1, c2⟩ := key k q hk
    exact c2 ▸ hD.2 k q' c1
theorem va_D_1 {A : Nat → Prop} {a : Nat} {e : va_E} (h : A a) : va_D A [(a, e)] := by
  refine ⟨fun i j p q hi hj _ => ?_, fun k q hk => ?_⟩
  · have h1 : i < 1 := (List.getElem?_eq_some_iff.mp hi).1
    have h2 : j < 1 := (List.getElem?_eq_some_iff.mp hj).1
    omega
  · have h1 : k < 1 := (List.getElem?_eq_some_iff.mp hk).1
    have h0 : k = 0 := by omega
    subst h0
    cases hk
    exact h
def mxw (δ : EX) (m x y : Nat) : va_W := [(m, .inr (1, [.int (nI 1), .int (nI 1), .ref x, .ref y])), (x, .inl (δ.2 1, 64, .inr (.inl (fun _ => 0)))), (y, .inl (δ.2 2, 64, .inl (fun _ => b2 false)))]
set_option maxHeartbeats 4000000 in
set_option maxRecDepth 100000 in
theorem c_M_init {l : Launch} (htr : l.stackTraces = false) {δ : EX} {b : Nat} : CI (fun _ => True) l y_M_init cw_M_init (RI 0 2 128) δ (fun q => q = b) [(b, .inr (1, [.int 0, .int 0, .null, .null]))] [.ref b] 2 128 (fun v w => v = none ∧ ∃ x y, w = mxw δ b x y) := by
  refine CI.of (lv := [(0, .ref b)]) (Or.inl ⟨rfl, rfl⟩) (by decide) htr rfl (Nat.le_of_ble_eq_true rfl) (fun κ hl X hnm hE => ?_)
  subst hl
  have hD := va_D_1 (A := fun q => q = b ∨ (xs κ).heap.size ≤ q) (a := b) (e := .inr (1, [.int 0, .int 0, .null, .null])) (Or.inl rfl)
  refine g_aload_n X 0 d_M_init_0 rfl rfl ?_
  refine g_objI X kl_M_3 kio kco d_M_init_1 ⟨(Nat.le_of_ble_eq_true rfl), (Nat.le_of_ble_eq_true rfl)⟩ ?_
  refine g_aload_n X 0 d_M_init_4 rfl rfl ?_
  refine g_iconst X (v := nI 1) d_M_init_5 (by decide) ?_
  refine g_put X in_M (ci := 1) rfl t_M_ok n_M hD (q0 := 0) rfl (k := 0) (ty := .int) (by decide) rfl kf_M_9 rfl (by decide +kernel) rfl rfl (Nat.lt_of_lt_of_eq (by decide : _ < 4) rfl) d_M_init_6 ?_
  refine g_aload_n X 0 d_M_init_9 rfl rfl ?_
  refine g_iconst X (v := nI 1) d_M_init_10 (by decide) ?_
  refine g_put X in_M (ci := 1) rfl t_M_ok n_M (va_D_addr hD rfl) (q0 := 0) rfl (k := 1) (ty := .int) (by decide) rfl kf_M_15 rfl (by decide +kernel) rfl rfl (Nat.lt_of_lt_of_eq (by decide : _ < 4) rfl) d_M_init_11 ?_
  refine g_aload_n X 0 d_M_init_14 rfl rfl ?_
  refine g_bipush X (v := nI 64) d_M_init_15 (by decide) ?_
  have hD := va_D_addr (ws' := [(b, .inr (1, [.int (nI 1), .int (nI 1), .null, .null]))]) hD rfl
  change G κ _ δ _ _ 0 0 [(b, .inr (1, [.int (nI 1), .int (nI 1), .null, .null]))] _ _ _
  refine g_newa X hD (atype := .long) (N := 64) (t0 := 1) kal rfl rfl (a0 := (64, .inr (.inl (fun _ => 0)))) (fun _ => rfl) (by decide) (by decide) (Nat.le_of_ble_eq_true rfl) (Nat.le_of_ble_eq_true rfl) d_M_init_17 (fun x hD => ?_)
  refine g_putF X hnm in_M (ci := 1) rfl t_M_ok n_M hD (q0 := 0) rfl (k := 2) (ty := .array .long) (by decide) rfl kf_M_18 rfl (by decide +kernel) rfl rfl (Nat.lt_of_lt_of_eq (by decide : _ < 4) rfl) d_M_init_19 (fun hD => ?_)
  refine g_aload_n X 0 d_M_init_22 rfl rfl ?_
  refine g_bipush X (v := nI 64) d_M_init_23 (by decide) ?_
  refine g_newa X hD (atype := .boolean) (N := 64) (t0 := 2) kaz rfl rfl (a0 := (64, .inl (fun _ => b2 false))) (fun _ => rfl) (by decide) (by decide) (Nat.le_of_ble_eq_true rfl) (Nat.le_of_ble_eq_true rfl) d_M_init_25 (fun y hD => ?_)
  refine g_putF X hnm in_M (ci := 1) rfl t_M_ok n_M hD (q0 := 0) rfl (k := 3) (ty := .array .boolean) (by decide) rfl kf_M_22 rfl (by decide +kernel) rfl rfl (Nat.lt_of_lt_of_eq (by decide : _ < 4) rfl) d_M_init_27 (fun hD => ?_)
  exact i_vret X hD d_M_init_30 ⟨rfl, x, y, rfl⟩
def adL (l : List Nat) (k : Nat) : Nat := l.getD k 0
set_option maxHeartbeats 4000000 in
set_option maxRecDepth 100000 in
theorem c_D_init {l : Launch} (htr : l.stackTraces = false) {δ : EX} {d : Nat} : CI (va_AO R_M) l y_D_init cw_D_init (RI 1 22 930) δ (fun q => q = d) [(d, .inr (0, [.null, .null]))] [.ref d] 22 930 (fun v w => v = none ∧ ∃ ad : Nat → Nat, ad 0 = d ∧ w = dl δ ad (fun _ => M0)) := by
  refine CI.of (lv := [(0, .ref d)]) (Or.inl ⟨rfl, rfl⟩) (by decide) htr rfl (Nat.le_of_ble_eq_true rfl) (fun κ hl X hnm hE => ?_)
  subst hl
  have hD := va_D_1 (A := fun q => q = d ∨ (xs κ).heap.size ≤ q) (a := d) (e := .inr (0, [.null, .null])) (Or.inl rfl)
  refine g_aload_n X 0 d_D_init_0 rfl rfl ?_
  refine g_objI X kl_D_1 kio kco d_D_init_1 ⟨(Nat.le_of_ble_eq_true rfl), (Nat.le_of_ble_eq_true rfl)⟩ ?_
  refine g_aload_n X 0 d_D_init_4 rfl rfl ?_
  refine g_bipush X (v := nI 6) d_D_init_5 (by decide) ?_
  refine g_newq X hD (N := 6) kk_D_9 hE (by decide) (by decide) (Nat.le_of_ble_eq_true rfl) (Nat.le_of_ble_eq_true rfl) d_D_init_7 (fun g hD => ?_)
  refine g_putF X hnm in_D (ci := 0) rfl t_D_ok n_D hD (q0 := 0) rfl (k := 0) (ty := .array (.object R_M)) (by decide) rfl kf_D_11 rfl (by decide +kernel) rfl rfl (Nat.lt_of_lt_of_eq (by decide : _ < 2) rfl) d_D_init_10 (fun hD => ?_)
  refine g_iconst X (v := nI 0) d_D_init_13 (by decide) ?_
  refine g_istore_n X 1 d_D_init_14 rfl (by decide) ?_
  change G κ _ δ _ _ _ _ [(d, .inr (0, [.ref g, .null])), (g, .inl (δ.2 3, 6, .inr (.inr (.inr (.inr (fun _ => none))))))] [(1, .int (nI 0)), (0, .ref d)] _ _
  refine g_iload_n X 1 d_D_init_15 rfl rfl ?_
  refine g_bipush X (v := nI 6) d_D_init_16 (by decide) ?_
  refine g_icmp_ge X 40 d_D_init_18 (by decide) (fun q => absurd q (by decide)) (fun _ => ?_)
  refine g_aload_n X 0 d_D_init_21 rfl rfl ?_
  refine g_get X in_D (ci := 0) rfl (q0 := 0) rfl (k := 0) (by decide) rfl kf_D_11 rfl d_D_init_22 ?_
  refine g_iload_n X 1 d_D_init_25 rfl rfl ?_
  refine g_new X hD in_M t_M_ok (ci := 1) rfl kk_D_9 knM ki_M (fs := [.int 0, .int 0, .null, .null]) (fun j hj => by
    obtain rfl | rfl | rfl | rfl : j = 0 ∨ j = 1 ∨ j = 2 ∨ j = 3 := by omega
    all_goals rfl) (Nat.le_of_ble_eq_true rfl) (Nat.le_of_ble_eq_true rfl) d_D_init_26 (fun m0 hD => ?_)
  refine g_dup X d_D_init_29 rfl ?_
  refine g_callI (fun _ _ => trivial) X hD (c_M_init htr) (fun _ _ h => h.1) kc_M_init kl_D_15 kin_M_init ki_M rfl (by decide) (by decide +kernel) d_D_init_30 ⟨(Nat.le_of_ble_eq_true rfl), (Nat.le_of_ble_eq_true rfl), (Nat.le_of_ble_eq_true rfl), (Nat.le_of_ble_eq_true rfl)⟩ (fun w hw hD => ?_)
  obtain ⟨-, x0, y0, rfl⟩ := hw
  refine g_aast X hD (q0 := 1) rfl (qk := 2) rfl (ci := 1) rfl (j := 0) rfl (by decide) (by decide) d_D_init_33 ?_
  have hD := va_D_addr (ws' := [(d, .inr (0, [.ref g, .null])), (g, .inl (δ.2 3, 6, .inr (.inr (.inr (.inr (va_up (fun _ => none) 0 (some m0))))))), (m0, .inr (1, [.int (nI 1), .int (nI 1), .ref x0, .ref y0])), (x0, .inl (δ.2 1, 64, .inr (.inl (fun _ => 0)))), (y0, .inl (δ.2 2, 64, .inl (fun _ => b2 false)))]) hD rfl
  refine g_iinc X d_D_init_34 rfl (nI_1 _) (by decide) ?_
  refine g_goto X 15 d_D_init_37 (by decide) ?_
  change G κ _ δ _ _ _ _ [(d, .inr (0, [.ref g, .null])), (g, .inl (δ.2 3, 6, .inr (.inr (.inr (.inr (va_up (fun _ => none) 0 (some m0))))))), (m0, .inr (1, [.int (nI 1), .int (nI 1), .ref x0, .ref y0])), (x0, .inl (δ.2 1, 64, .inr (.inl (fun _ => 0)))), (y0, .inl (δ.2 2, 64, .inl (fun _ => b2 false)))] [(1, .int (nI 1)), (0, .ref d)] _ _
  refine g_iload_n X 1 d_D_init_15 rfl rfl ?_
  refine g_bipush X (v := nI 6) d_D_init_16 (by decide) ?_
  refine g_icmp_ge X 40 d_D_init_18 (by decide) (fun q => absurd q (by decide)) (fun _ => ?_)
  refine g_aload_n X 0 d_D_init_21 rfl rfl ?_
  refine g_get X in_D (ci := 0) rfl (q0 := 0) rfl (k := 0) (by decide) rfl kf_D_11 rfl d_D_init_22 ?_
  refine g_iload_n X 1 d_D_init_25 rfl rfl ?_
  refine g_new X hD in_M t_M_ok (ci := 1) rfl kk_D_9 knM ki_M (fs := [.int 0, .int 0, .null, .null]) (fun j hj => by
    obtain rfl | rfl | rfl | rfl : j = 0 ∨ j = 1 ∨ j = 2 ∨ j = 3 := by omega
    all_goals rfl) (Nat.le_of_ble_eq_true rfl) (Nat.le_of_ble_eq_true rfl) d_D_init_26 (fun m1 hD => ?_)
  refine g_dup X d_D_init_29 rfl ?_
  refine g_callI (fun _ _ => trivial) X hD (c_M_init htr) (fun _ _ h => h.1) kc_M_init kl_D_15 kin_M_init ki_M rfl (by decide) (by decide +kernel) d_D_init_30 ⟨(Nat.le_of_ble_eq_true rfl), (Nat.le_of_ble_eq_true rfl), (Nat.le_of_ble_eq_true rfl), (Nat.le_of_ble_eq_true rfl)⟩ (fun w hw hD => ?_)
  obtain ⟨-, x1, y1, rfl⟩ := hw
  refine g_aast X hD (q0 := 1) rfl (qk := 5) rfl (ci := 1) rfl (j := 1) rfl (by decide) (by decide) d_D_init_33 ?_
  have hD := va_D_addr (ws' := [(d, .inr (0, [.ref g, .null])), (g, .inl (δ.2 3, 6, .inr (.inr (.inr (.inr (va_up (va_up (fun _ => none) 0 (some m0)) 1 (some m1))))))), (m0, .inr (1, [.int (nI 1), .int (nI 1), .ref x0, .ref y0])), (x0, .inl (δ.2 1, 64, .inr (.inl (fun _ => 0)))), (y0, .inl (δ.2 2, 64, .inl (fun _ => b2 false))), (m1, .inr (1, [.int (nI 1), .int (nI 1), .ref x1, .ref y1])), (x1, .inl (δ.2 1, 64, .inr (.inl (fun _ => 0)))), (y1, .inl (δ.2 2, 64, .inl (fun _ => b2 false)))]) hD rfl
  refine g_iinc X d_D_init_34 rfl (nI_1 _) (by decide) ?_
  refine g_goto X 15 d_D_init_37 (by decide) ?_
  change G κ _ δ _ _ _ _ [(d, .inr (0, [.ref g, .null])), (g, .inl (δ.2 3, 6, .inr (.inr (.inr (.inr (va_up (va_up (fun _ => none) 0 (some m0)) 1 (some m1))))))), (m0, .inr (1, [.int (nI 1), .int (nI 1), .ref x0, .ref y0])), (x0, .inl (δ.2 1, 64, .inr (.inl (fun _ => 0)))), (y0, .inl (δ.2 2, 64, .inl (fun _ => b2 false))), (m1, .inr (1, [.int (nI 1), .int (nI 1), .ref x1, .ref y1])), (x1, .inl (δ.2 1, 64, .inr (.inl (fun _ => 0)))), (y1, .inl (δ.2 2, 64, .inl (fun _ => b2 false)))] [(1, .int (nI 2)), (0, .ref d)] _ _
  refine g_iload_n X 1 d_D_init_15 rfl rfl ?_
  refine g_bipush X (v := nI 6) d_D_init_16 (by decide) ?_
  refine g_icmp_ge X 40 d_D_init_18 (by decide) (fun q => absurd q (by decide)) (fun _ => ?_)
  refine g_aload_n X 0 d_D_init_21 rfl rfl ?_
  refine g_get X in_D (ci := 0) rfl (q0 := 0) rfl (k := 0) (by decide) rfl kf_D_11 rfl d_D_init_22 ?_
  refine g_iload_n X 1 d_D_init_25 rfl rfl ?_
  refine g_new X hD in_M t_M_ok (ci := 1) rfl kk_D_9 knM ki_M (fs := [.int 0, .int 0, .null, .null]) (fun j hj => by
    obtain rfl | rfl | rfl | rfl : j = 0 ∨ j = 1 ∨ j = 2 ∨ j = 3 := by omega
    all_goals rfl) (Nat.le_of_ble_eq_true rfl) (Nat.le_of_ble_eq_true rfl) d_D_init_26 (fun m2 hD => ?_)
  refine g_dup X d_D_init_29 rfl ?_
  refine g_callI (fun _ _ => trivial) X hD (c_M_init htr) (fun _ _ h => h.1) kc_M_init kl_D_15 kin_M_init ki_M rfl (by decide) (by decide +kernel) d_D_init_30 ⟨(Nat.le_of_ble_eq_true rfl), (Nat.le_of_ble_eq_true rfl), (Nat.le_of_ble_eq_true rfl), (Nat.le_of_ble_eq_true rfl)⟩ (fun w hw hD => ?_)
  obtain ⟨-, x2, y2, rfl⟩ := hw
  refine g_aast X hD (q0 := 1) rfl (qk := 8) rfl (ci := 1) rfl (j := 2) rfl (by decide) (by decide) d_D_init_33 ?_
  have hD := va_D_addr (ws' := [(d, .inr (0, [.ref g, .null])), (g, .inl (δ.2 3, 6, .inr (.inr (.inr (.inr (va_up (va_up (va_up (fun _ => none) 0 (some m0)) 1 (some m1)) 2 (some m2))))))), (m0, .inr (1, [.int (nI 1), .int (nI 1), .ref x0, .ref y0])), (x0, .inl (δ.2 1, 64, .inr (.inl (fun _ => 0)))), (y0, .inl (δ.2 2, 64, .inl (fun _ => b2 false))), (m1, .inr (1, [.int (nI 1), .int (nI 1), .ref x1, .ref y1])), (x1, .inl (δ.2 1, 64, .inr (.inl (fun _ => 0)))), (y1, .inl (δ.2 2, 64, .inl (fun _ => b2 false))), (m2, .inr (1, [.int (nI 1), .int (nI 1), .ref x2, .ref y2])), (x2, .inl (δ.2 1, 64, .inr (.inl (fun _ => 0)))), (y2, .inl (δ.2 2, 64, .inl (fun _ => b2 false)))]) hD rfl
  refine g_iinc X d_D_init_34 rfl (nI_1 _) (by decide) ?_
  refine g_goto X 15 d_D_init_37 (by decide) ?_
  change G κ _ δ _ _ _ _ [(d, .inr (0, [.ref g, .null])), (g, .inl (δ.2 3, 6, .inr (.inr (.inr (.inr (va_up (va_up (va_up (fun _ => none) 0 (some m0)) 1 (some m1)) 2 (some m2))))))), (m0, .inr (1, [.int (nI 1), .int (nI 1), .ref x0, .ref y0])), (x0, .inl (δ.2 1, 64, .inr (.inl (fun _ => 0)))), (y0, .inl (δ.2 2, 64, .inl (fun _ => b2 false))), (m1, .inr (1, [.int (nI 1), .int (nI 1), .ref x1, .ref y1])), (x1, .inl (δ.2 1, 64, .inr (.inl (fun _ => 0)))), (y1, .inl (δ.2 2, 64, .inl (fun _ => b2 false))), (m2, .inr (1, [.int (nI 1), .int (nI 1), .ref x2, .ref y2])), (x2, .inl (δ.2 1, 64, .inr (.inl (fun _ => 0)))), (y2, .inl (δ.2 2, 64, .inl (fun _ => b2 false)))] [(1, .int (nI 3)), (0, .ref d)] _ _
  refine g_iload_n X 1 d_D_init_15 rfl rfl ?_
  refine g_bipush X (v := nI 6) d_D_init_16 (by decide) ?_
  refine g_icmp_ge X 40 d_D_init_18 (by decide) (fun q => absurd q (by decide)) (fun _ => ?_)
  refine g_aload_n X 0 d_D_init_21 rfl rfl ?_
  refine g_get X in_D (ci := 0) rfl (q0 := 0) rfl (k := 0) (by decide) rfl kf_D_11 rfl d_D_init_22 ?_
  refine g_iload_n X 1 d_D_init_25 rfl rfl ?_
  refine g_new X hD in_M t_M_ok (ci := 1) rfl kk_D_9 knM ki_M (fs := [.int 0, .int 0, .null, .null]) (fun j hj => by
    obtain rfl | rfl | rfl | rfl : j = 0 ∨ j = 1 ∨ j = 2 ∨ j = 3 := by omega
    all_goals rfl) (Nat.le_of_ble_eq_true rfl) (Nat.le_of_ble_eq_true rfl) d_D_init_26 (fun m3 hD => ?_)
  refine g_dup X d_D_init_29 rfl ?_
  refine g_callI (fun _ _ => trivial) X hD (c_M_init htr) (fun _ _ h => h.1) kc_M_init kl_D_15 kin_M_init ki_M rfl (by decide) (by decide +kernel) d_D_init_30 ⟨(Nat.le_of_ble_eq_true rfl), (Nat.le_of_ble_eq_true rfl), (Nat.le_of_ble_eq_true rfl), (Nat.le_of_ble_eq_true rfl)⟩ (fun w hw hD => ?_)
  obtain ⟨-, x3, y3, rfl⟩ := hw
  refine g_aast X hD (q0 := 1) rfl (qk := 11) rfl (ci := 1) rfl (j := 3) rfl (by decide) (by decide) d_D_init_33 ?_
  have hD := va_D_addr (ws' := [(d, .inr (0, [.ref g, .null])), (g, .inl (δ.2 3, 6, .inr (.inr (.inr (.inr (va_up (va_up (va_up (va_up (fun _ => none) 0 (some m0)) 1 (some m1)) 2 (some m2)) 3 (some m3))))))), (m0, .inr (1, [.int (nI 1), .int (nI 1), .ref x0, .ref y0])), (x0, .inl (δ.2 1, 64, .inr (.inl (fun _ => 0)))), (y0, .inl (δ.2 2, 64, .inl (fun _ => b2 false))), (m1, .inr (1, [.int (nI 1), .int (nI 1), .ref x1, .ref y1])), (x1, .inl (δ.2 1, 64, .inr (.inl (fun _ => 0)))), (y1, .inl (δ.2 2, 64, .inl (fun _ => b2 false))), (m2, .inr (1, [.int (nI 1), .int (nI 1), .ref x2, .ref y2])), (x2, .inl (δ.2 1, 64, .inr (.inl (fun _ => 0)))), (y2, .inl (δ.2 2, 64, .inl (fun _ => b2 false))), (m3, .inr (1, [.int (nI 1), .int (nI 1), .ref x3, .ref y3])), (x3, .inl (δ.2 1, 64, .inr (.inl (fun _ => 0)))), (y3, .inl (δ.2 2, 64, .inl (fun _ => b2 false)))]) hD rfl
  refine g_iinc X d_D_init_34 rfl (nI_1 _) (by decide) ?_
  refine g_goto X 15 d_D_init_37 (by decide) ?_
  change G κ _ δ _ _ _ _ [(d, .inr (0, [.ref g, .null])), (g, .inl (δ.2 3, 6, .inr (.inr (.inr (.inr (va_up (va_up (va_up (va_up (fun _ => none) 0 (some m0)) 1 (some m1)) 2 (some m2)) 3 (some m3))))))), (m0, .inr (1, [.int (nI 1), .int (nI 1), .ref x0, .ref y0])), (x0, .inl (δ.2 1, 64, .inr (.inl (fun _ => 0)))), (y0, .inl (δ.2 2, 64, .inl (fun _ => b2 false))), (m1, .inr (1, [.int (nI 1), .int (nI 1), .ref x1, .ref y1])), (x1, .inl (δ.2 1, 64, .inr (.inl (fun _ => 0)))), (y1, .inl (δ.2 2, 64, .inl (fun _ => b2 false))), (m2, .inr (1, [.int (nI 1), .int (nI 1), .ref x2, .ref y2])), (x2, .inl (δ.2 1, 64, .inr (.inl (fun _ => 0)))), (y2, .inl (δ.2 2, 64, .inl (fun _ => b2 false))), (m3, .inr (1, [.int (nI 1), .int (nI 1), .ref x3, .ref y3])), (x3, .inl (δ.2 1, 64, .inr (.inl (fun _ => 0)))), (y3, .inl (δ.2 2, 64, .inl (fun _ => b2 false)))] [(1, .int (nI 4)), (0, .ref d)] _ _
  refine g_iload_n X 1 d_D_init_15 rfl rfl ?_
  refine g_bipush X (v := nI 6) d_D_init_16 (by decide) ?_
  refine g_icmp_ge X 40 d_D_init_18 (by decide) (fun q => absurd q (by decide)) (fun _ => ?_)
  refine g_aload_n X 0 d_D_init_21 rfl rfl ?_
  refine g_get X in_D (ci := 0) rfl (q0 := 0) rfl (k := 0) (by decide) rfl kf_D_11 rfl d_D_init_22 ?_
  refine g_iload_n X 1 d_D_init_25 rfl rfl ?_
  refine g_new X hD in_M t_M_ok (ci := 1) rfl kk_D_9 knM ki_M (fs := [.int 0, .int 0, .null, .null]) (fun j hj => by
    obtain rfl | rfl | rfl | rfl : j = 0 ∨ j = 1 ∨ j = 2 ∨ j = 3 := by omega
    all_goals rfl) (Nat.le_of_ble_eq_true rfl) (Nat.le_of_ble_eq_true rfl) d_D_init_26 (fun m4 hD => ?_)
  refine g_dup X d_D_init_29 rfl ?_
  refine g_callI (fun _ _ => trivial) X hD (c_M_init htr) (fun _ _ h => h.1) kc_M_init kl_D_15 kin_M_init ki_M rfl (by decide) (by decide +kernel) d_D_init_30 ⟨(Nat.le_of_ble_eq_true rfl), (Nat.le_of_ble_eq_true rfl), (Nat.le_of_ble_eq_true rfl), (Nat.le_of_ble_eq_true rfl)⟩ (fun w hw hD => ?_)
  obtain ⟨-, x4, y4, rfl⟩ := hw
  refine g_aast X hD (q0 := 1) rfl (qk := 14) rfl (ci := 1) rfl (j := 4) rfl (by decide) (by decide) d_D_init_33 ?_
  have hD := va_D_addr (ws' := [(d, .inr (0, [.ref g, .null])), (g, .inl (δ.2 3, 6, .inr (.inr (.inr (.inr (va_up (va_up (va_up (va_up (va_up (fun _ => none) 0 (some m0)) 1 (some m1)) 2 (some m2)) 3 (some m3)) 4 (some m4))))))), (m0, .inr (1, [.int (nI 1), .int (nI 1), .ref x0, .ref y0])), (x0, .inl (δ.2 1, 64, .inr (.inl (fun _ => 0)))), (y0, .inl (δ.2 2, 64, .inl (fun _ => b2 false))), (m1, .inr (1, [.int (nI 1), .int (nI 1), .ref x1, .ref y1])), (x1, .inl (δ.2 1, 64, .inr (.inl (fun _ => 0)))), (y1, .inl (δ.2 2, 64, .inl (fun _ => b2 false))), (m2, .inr (1, [.int (nI 1), .int (nI 1), .ref x2, .ref y2])), (x2, .inl (δ.2 1, 64, .inr (.inl (fun _ => 0)))), (y2, .inl (δ.2 2, 64, .inl (fun _ => b2 false))), (m3, .inr (1, [.int (nI 1), .int (nI 1), .ref x3, .ref y3])), (x3, .inl (δ.2 1, 64, .inr (.inl (fun _ => 0)))), (y3, .inl (δ.2 2, 64, .inl (fun _ => b2 false))), (m4, .inr (1, [.int (nI 1), .int (nI 1), .ref x4, .ref y4])), (x4, .inl (δ.2 1, 64, .inr (.inl (fun _ => 0)))), (y4, .inl (δ.2 2, 64, .inl (fun _ => b2 false)))]) hD rfl
  refine g_iinc X d_D_init_34 rfl (nI_1 _) (by decide) ?_
  refine g_goto X 15 d_D_init_37 (by decide) ?_
  change G κ _ δ _ _ _ _ [(d, .inr (0, [.ref g, .null])), (g, .inl (δ.2 3, 6, .inr (.inr (.inr (.inr (va_up (va_up (va_up (va_up (va_up (fun _ => none) 0 (some m0)) 1 (some m1)) 2 (some m2)) 3 (some m3)) 4 (some m4))))))), (m0, .inr (1, [.int (nI 1), .int (nI 1), .ref x0, .ref y0])), (x0, .inl (δ.2 1, 64, .inr (.inl (fun _ => 0)))), (y0, .inl (δ.2 2, 64, .inl (fun _ => b2 false))), (m1, .inr (1, [.int (nI 1), .int (nI 1), .ref x1, .ref y1])), (x1, .inl (δ.2 1, 64, .inr (.inl (fun _ => 0)))), (y1, .inl (δ.2 2, 64, .inl (fun _ => b2 false))), (m2, .inr (1, [.int (nI 1), .int (nI 1), .ref x2, .ref y2])), (x2, .inl (δ.2 1, 64, .inr (.inl (fun _ => 0)))), (y2, .inl (δ.2 2, 64, .inl (fun _ => b2 false))), (m3, .inr (1, [.int (nI 1), .int (nI 1), .ref x3, .ref y3])), (x3, .inl (δ.2 1, 64, .inr (.inl (fun _ => 0)))), (y3, .inl (δ.2 2, 64, .inl (fun _ => b2 false))), (m4, .inr (1, [.int (nI 1), .int (nI 1), .ref x4, .ref y4])), (x4, .inl (δ.2 1, 64, .inr (.inl (fun _ => 0)))), (y4, .inl (δ.2 2, 64, .inl (fun _ => b2 false)))] [(1, .int (nI 5)), (0, .ref d)] _ _
  refine g_iload_n X 1 d_D_init_15 rfl rfl ?_
  refine g_bipush X (v := nI 6) d_D_init_16 (by decide) ?_
  refine g_icmp_ge X 40 d_D_init_18 (by decide) (fun q => absurd q (by decide)) (fun _ => ?_)
  refine g_aload_n X 0 d_D_init_21 rfl rfl ?_
  refine g_get X in_D (ci := 0) rfl (q0 := 0) rfl (k := 0) (by decide) rfl kf_D_11 rfl d_D_init_22 ?_
  refine g_iload_n X 1 d_D_init_25 rfl rfl ?_
  refine g_new X hD in_M t_M_ok (ci := 1) rfl kk_D_9 knM ki_M (fs := [.int 0, .int 0, .null, .null]) (fun j hj => by
    obtain rfl | rfl | rfl | rfl : j = 0 ∨ j = 1 ∨ j = 2 ∨ j = 3 := by omega
    all_goals rfl) (Nat.le_of_ble_eq_true rfl) (Nat.le_of_ble_eq_true rfl) d_D_init_26 (fun m5 hD => ?_)
  refine g_dup X d_D_init_29 rfl ?_
  refine g_callI (fun _ _ => trivial) X hD (c_M_init htr) (fun _ _ h => h.1) kc_M_init kl_D_15 kin_M_init ki_M rfl (by decide) (by decide +kernel) d_D_init_30 ⟨(Nat.le_of_ble_eq_true rfl), (Nat.le_of_ble_eq_true rfl), (Nat.le_of_ble_eq_true rfl), (Nat.le_of_ble_eq_true rfl)⟩ (fun w hw hD => ?_)
  obtain ⟨-, x5, y5, rfl⟩ := hw
  refine g_aast X hD (q0 := 1) rfl (qk := 17) rfl (ci := 1) rfl (j := 5) rfl (by decide) (by decide) d_D_init_33 ?_
  have hD := va_D_addr (ws' := [(d, .inr (0, [.ref g, .null])), (g, .inl (δ.2 3, 6, .inr (.inr (.inr (.inr (va_up (va_up (va_up (va_up (va_up (va_up (fun _ => none) 0 (some m0)) 1 (some m1)) 2 (some m2)) 3 (some m3)) 4 (some m4)) 5 (some m5))))))), (m0, .inr (1, [.int (nI 1), .int (nI 1), .ref x0, .ref y0])), (x0, .inl (δ.2 1, 64, .inr (.inl (fun _ => 0)))), (y0, .inl (δ.2 2, 64, .inl (fun _ => b2 false))), (m1, .inr (1, [.int (nI 1), .int (nI 1), .ref x1, .ref y1])), (x1, .inl (δ.2 1, 64, .inr (.inl (fun _ => 0)))), (y1, .inl (δ.2 2, 64, .inl (fun _ => b2 false))), (m2, .inr (1, [.int (nI 1), .int (nI 1), .ref x2, .ref y2])), (x2, .inl (δ.2 1, 64, .inr (.inl (fun _ => 0)))), (y2, .inl (δ.2 2, 64, .inl (fun _ => b2 false))), (m3, .inr (1, [.int (nI 1), .int (nI 1), .ref x3, .ref y3])), (x3, .inl (δ.2 1, 64, .inr (.inl (fun _ => 0)))), (y3, .inl (δ.2 2, 64, .inl (fun _ => b2 false))), (m4, .inr (1, [.int (nI 1), .int (nI 1), .ref x4, .ref y4])), (x4, .inl (δ.2 1, 64, .inr (.inl (fun _ => 0)))), (y4, .inl (δ.2 2, 64, .inl (fun _ => b2 false))), (m5, .inr (1, [.int (nI 1), .int (nI 1), .ref x5, .ref y5])), (x5, .inl (δ.2 1, 64, .inr (.inl (fun _ => 0)))), (y5, .inl (δ.2 2, 64, .inl (fun _ => b2 false)))]) hD rfl
  refine g_iinc X d_D_init_34 rfl (nI_1 _) (by decide) ?_
  refine g_goto X 15 d_D_init_37 (by decide) ?_
  change G κ _ δ _ _ _ _ [(d, .inr (0, [.ref g, .null])), (g, .inl (δ.2 3, 6, .inr (.inr (.inr (.inr (va_up (va_up (va_up (va_up (va_up (va_up (fun _ => none) 0 (some m0)) 1 (some m1)) 2 (some m2)) 3 (some m3)) 4 (some m4)) 5 (some m5))))))), (m0, .inr (1, [.int (nI 1), .int (nI 1), .ref x0, .ref y0])), (x0, .inl (δ.2 1, 64, .inr (.inl (fun _ => 0)))), (y0, .inl (δ.2 2, 64, .inl (fun _ => b2 false))), (m1, .inr (1, [.int (nI 1), .int (nI 1), .ref x1, .ref y1])), (x1, .inl (δ.2 1, 64, .inr (.inl (fun _ => 0)))), (y1, .inl (δ.2 2, 64, .inl (fun _ => b2 false))), (m2, .inr (1, [.int (nI 1), .int (nI 1), .ref x2, .ref y2])), (x2, .inl (δ.2 1, 64, .inr (.inl (fun _ => 0)))), (y2, .inl (δ.2 2, 64, .inl (fun _ => b2 false))), (m3, .inr (1, [.int (nI 1), .int (nI 1), .ref x3, .ref y3])), (x3, .inl (δ.2 1, 64, .inr (.inl (fun _ => 0)))), (y3, .inl (δ.2 2, 64, .inl (fun _ => b2 false))), (m4, .inr (1, [.int (nI 1), .int (nI 1), .ref x4, .ref y4])), (x4, .inl (δ.2 1, 64, .inr (.inl (fun _ => 0)))), (y4, .inl (δ.2 2, 64, .inl (fun _ => b2 false))), (m5, .inr (1, [.int (nI 1), .int (nI 1), .ref x5, .ref y5])), (x5, .inl (δ.2 1, 64, .inr (.inl (fun _ => 0)))), (y5, .inl (δ.2 2, 64, .inl (fun _ => b2 false)))] [(1, .int (nI 6)), (0, .ref d)] _ _
  refine g_iload_n X 1 d_D_init_15 rfl rfl ?_
  refine g_bipush X (v := nI 6) d_D_init_16 (by decide) ?_
  refine g_icmp_ge X 40 d_D_init_18 (by decide) (fun _ => ?_) (fun q => absurd (by decide) q)
  refine g_aload_n X 0 d_D_init_40 rfl rfl ?_
  refine g_new X hD in_M t_M_ok (ci := 1) rfl kk_D_9 knM ki_M (fs := [.int 0, .int 0, .null, .null]) (fun j hj => by
    obtain rfl | rfl | rfl | rfl : j = 0 ∨ j = 1 ∨ j = 2 ∨ j = 3 := by omega
    all_goals rfl) (Nat.le_of_ble_eq_true rfl) (Nat.le_of_ble_eq_true rfl) d_D_init_41 (fun m6 hD => ?_)
  refine g_dup X d_D_init_44 rfl ?_
  refine g_callI (fun _ _ => trivial) X hD (c_M_init htr) (fun _ _ h => h.1) kc_M_init kl_D_15 kin_M_init ki_M rfl (by decide) (by decide +kernel) d_D_init_45 ⟨(Nat.le_of_ble_eq_true rfl), (Nat.le_of_ble_eq_true rfl), (Nat.le_of_ble_eq_true rfl), (Nat.le_of_ble_eq_true rfl)⟩ (fun w hw hD => ?_)
  obtain ⟨-, x6, y6, rfl⟩ := hw
  refine g_put X in_D (ci := 0) rfl t_D_ok n_D hD (q0 := 0) rfl (k := 1) (ty := .object R_M) (by decide) rfl kf_D_16 rfl (by decide +kernel) rfl rfl (Nat.lt_of_lt_of_eq (by decide : _ < 2) rfl) d_D_init_48 ?_
  have hD := va_D_addr (ws' := [(d, .inr (0, [.ref g, .ref m6])), (g, .inl (δ.2 3, 6, .inr (.inr (.inr (.inr (va_up (va_up (va_up (va_up (va_up (va_up (fun _ => none) 0 (some m0)) 1 (some m1)) 2 (some m2)) 3 (some m3)) 4 (some m4)) 5 (some m5))))))), (m0, .inr (1, [.int (nI 1), .int (nI 1), .ref x0, .ref y0])), (x0, .inl (δ.2 1, 64, .inr (.inl (fun _ => 0)))), (y0, .inl (δ.2 2, 64, .inl (fun _ => b2 false))), (m1, .inr (1, [.int (nI 1), .int (nI 1), .ref x1, .ref y1])), (x1, .inl (δ.2 1, 64, .inr (.inl (fun _ => 0)))), (y1, .inl (δ.2 2, 64, .inl (fun _ => b2 false))), (m2, .inr (1, [.int (nI 1), .int (nI 1), .ref x2, .ref y2])), (x2, .inl (δ.2 1, 64, .inr (.inl (fun _ => 0)))), (y2, .inl (δ.2 2, 64, .inl (fun _ => b2 false))), (m3, .inr (1, [.int (nI 1), .int (nI 1), .ref x3, .ref y3])), (x3, .inl (δ.2 1, 64, .inr (.inl (fun _ => 0)))), (y3, .inl (δ.2 2, 64, .inl (fun _ => b2 false))), (m4, .inr (1, [.int (nI 1), .int (nI 1), .ref x4, .ref y4])), (x4, .inl (δ.2 1, 64, .inr (.inl (fun _ => 0)))), (y4, .inl (δ.2 2, 64, .inl (fun _ => b2 false))), (m5, .inr (1, [.int (nI 1), .int (nI 1), .ref x5, .ref y5])), (x5, .inl (δ.2 1, 64, .inr (.inl (fun _ => 0)))), (y5, .inl (δ.2 2, 64, .inl (fun _ => b2 false))), (m6, .inr (1, [.int (nI 1), .int (nI 1), .ref x6, .ref y6])), (x6, .inl (δ.2 1, 64, .inr (.inl (fun _ => 0)))), (y6, .inl (δ.2 2, 64, .inl (fun _ => b2 false)))]) hD rfl
  change G κ _ δ _ _ _ _ [(d, .inr (0, [.ref g, .ref m6])), (g, .inl (δ.2 3, 6, .inr (.inr (.inr (.inr (va_up (va_up (va_up (va_up (va_up (va_up (fun _ => none) 0 (some m0)) 1 (some m1)) 2 (some m2)) 3 (some m3)) 4 (some m4)) 5 (some m5))))))), (m0, .inr (1, [.int (nI 1), .int (nI 1), .ref x0, .ref y0])), (x0, .inl (δ.2 1, 64, .inr (.inl (fun _ => 0)))), (y0, .inl (δ.2 2, 64, .inl (fun _ => b2 false))), (m1, .inr (1, [.int (nI 1), .int (nI 1), .ref x1, .ref y1])), (x1, .inl (δ.2 1, 64, .inr (.inl (fun _ => 0)))), (y1, .inl (δ.2 2, 64, .inl (fun _ => b2 false))), (m2, .inr (1, [.int (nI 1), .int (nI 1), .ref x2, .ref y2])), (x2, .inl (δ.2 1, 64, .inr (.inl (fun _ => 0)))), (y2, .inl (δ.2 2, 64, .inl (fun _ => b2 false))), (m3, .inr (1, [.int (nI 1), .int (nI 1), .ref x3, .ref y3])), (x3, .inl (δ.2 1, 64, .inr (.inl (fun _ => 0)))), (y3, .inl (δ.2 2, 64, .inl (fun _ => b2 false))), (m4, .inr (1, [.int (nI 1), .int (nI 1), .ref x4, .ref y4])), (x4, .inl (δ.2 1, 64, .inr (.inl (fun _ => 0)))), (y4, .inl (δ.2 2, 64, .inl (fun _ => b2 false))), (m5, .inr (1, [.int (nI 1), .int (nI 1), .ref x5, .ref y5])), (x5, .inl (δ.2 1, 64, .inr (.inl (fun _ => 0)))), (y5, .inl (δ.2 2, 64, .inl (fun _ => b2 false))), (m6, .inr (1, [.int (nI 1), .int (nI 1), .ref x6, .ref y6])), (x6, .inl (δ.2 1, 64, .inr (.inl (fun _ => 0)))), (y6, .inl (δ.2 2, 64, .inl (fun _ => b2 false)))] _ _ _
  have e : va_up (va_up (va_up (va_up (va_up (va_up (fun _ => none) 0 (some m0)) 1 (some m1)) 2 (some m2)) 3 (some m3)) 4 (some m4)) 5 (some m5) = fun r => if r < 6 then some (mq (adL [d, g, m0, x0, y0, m1, x1, y1, m2, x2, y2, m3, x3, y3, m4, x4, y4, m5, x5, y5, m6, x6, y6]) r) else none := by
    funext r
    rcases r with _ | _ | _ | _ | _ | _ | r
    · rfl
    · rfl
    · rfl
    · rfl
    · rfl
    · rfl
    · simp [va_up]
  rw [e] at hD ⊢
  exact i_vret X hD d_D_init_51 ⟨rfl, adL [d, g, m0, x0, y0, m1, x1, y1, m2, x2, y2, m3, x3, y3, m4, x4, y4, m5, x5, y5, m6, x6, y6], rfl, rfl⟩
def s0 : SS := (fun i => if i < 6 then 1 else 0, fun i => if i < 6 then 1 else 0, fun _ => false, fun _ => 0)
def w0 : WS := (false, fun _ => false, fun _ => 0)
set_option maxHeartbeats 4000000 in
set_option maxRecDepth 100000 in
theorem c_R_init {l : Launch} (htr : l.stackTraces = false) {δ : EX} {r : Nat} : CI (fun _ => True) l y_R_init cw_R_init (RI 0 6 908) δ (fun q => q = r) [(r, .inr (2, [.int 0, .null, .null, .null, .null, .int 0, .int 0, .null, .null, .int 0]))] [.ref r] 6 908 (fun v w => v = none ∧ ∃ b : Nat → Nat, b 0 = r ∧ w = rl δ b 0 0 0 s0 w0) := by
  refine CI.of (lv := [(0, .ref r)]) (Or.inl ⟨rfl, rfl⟩) (by decide) htr rfl (Nat.le_of_ble_eq_true rfl) (fun κ hl X hnm hE => ?_)
  subst hl
  have hD := va_D_1 (A := fun q => q = r ∨ (xs κ).heap.size ≤ q) (a := r) (e := .inr (2, [.int 0, .null, .null, .null, .null, .int 0, .int 0, .null, .null, .int 0])) (Or.inl rfl)
  refine g_aload_n X 0 d_R_init_0 rfl rfl ?_
  refine g_objI X kl_R_1 kio kco d_R_init_1 ⟨(Nat.le_of_ble_eq_true rfl), (Nat.le_of_ble_eq_true rfl)⟩ ?_
  refine g_aload_n X 0 d_R_init_4 rfl rfl ?_
  refine g_bipush X (v := nI 6) d_R_init_5 (by decide) ?_
  refine g_newa X hD (atype := .int) (N := 6) (t0 := 0) kai rfl rfl (a0 := (6, .inl (fun _ => 0))) (fun _ => rfl) (by decide) (by decide) (Nat.le_of_ble_eq_true rfl) (Nat.le_of_ble_eq_true rfl) d_R_init_7 (fun a1 hD => ?_)
  refine g_dup X d_R_init_9 rfl ?_
  refine g_iconst X (v := nI 0) d_R_init_10 (by decide) ?_
  refine g_iconst X (v := nI 1) d_R_init_11 (by decide) ?_
  refine g_iast X hD (q0 := 1) rfl (j := 0) rfl (by decide) (by decide) d_R_init_12 ?_
  have hD := va_D_addr (ws' := [(r, .inr (2, [.int 0, .null, .null, .null, .null, .int 0, .int 0, .null, .null, .int 0])), (a1, .inl (δ.2 0, 6, .inl (upd (fun _ => 0) 0 (nI 1))))]) hD rfl
  change G κ _ δ _ _ _ _ [(r, .inr (2, [.int 0, .null, .null, .null, .null, .int 0, .int 0, .null, .null, .int 0])), (a1, .inl (δ.2 0, 6, .inl (upd (fun _ => 0) 0 (nI 1))))] _ _ _
  refine g_dup X d_R_init_13 rfl ?_
  refine g_iconst X (v := nI 1) d_R_init_14 (by decide) ?_
  refine g_iconst X (v := nI 1) d_R_init_15 (by decide) ?_
  refine g_iast X hD (q0 := 1) rfl (j := 1) rfl (by decide) (by decide) d_R_init_16 ?_
  have hD := va_D_addr (ws' := [(r, .inr (2, [.int 0, .null, .null, .null, .null, .int 0, .int 0, .null, .null, .int 0])), (a1, .inl (δ.2 0, 6, .inl (upd (upd (fun _ => 0) 0 (nI 1)) 1 (nI 1))))]) hD rfl
  change G κ _ δ _ _ _ _ [(r, .inr (2, [.int 0, .null, .null, .null, .null, .int 0, .int 0, .null, .null, .int 0])), (a1, .inl (δ.2 0, 6, .inl (upd (upd (fun _ => 0) 0 (nI 1)) 1 (nI 1))))] _ _ _
  refine g_dup X d_R_init_17 rfl ?_
  refine g_iconst X (v := nI 2) d_R_init_18 (by decide) ?_
  refine g_iconst X (v := nI 1) d_R_init_19 (by decide) ?_
  refine g_iast X hD (q0 := 1) rfl (j := 2) rfl (by decide) (by decide) d_R_init_20 ?_
  have hD := va_D_addr (ws' := [(r, .inr (2, [.int 0, .null, .null, .null, .null, .int 0, .int 0, .null, .null, .int 0])), (a1, .inl (δ.2 0, 6, .inl (upd (upd (upd (fun _ => 0) 0 (nI 1)) 1 (nI 1)) 2 (nI 1))))]) hD rfl
  change G κ _ δ _ _ _ _ [(r, .inr (2, [.int 0, .null, .null, .null, .null, .int 0, .int 0, .null, .null, .int 0])), (a1, .inl (δ.2 0, 6, .inl (upd (upd (upd (fun _ => 0) 0 (nI 1)) 1 (nI 1)) 2 (nI 1))))] _ _ _
  refine g_dup X d_R_init_21 rfl ?_
  refine g_iconst X (v := nI 3) d_R_init_22 (by decide) ?_
  refine g_iconst X (v := nI 1) d_R_init_23 (by decide) ?_
  refine g_iast X hD (q0 := 1) rfl (j := 3) rfl (by decide) (by decide) d_R_init_24 ?_
  have hD := va_D_addr (ws' := [(r, .inr (2, [.int 0, .null, .null, .null, .null, .int 0, .int 0, .null, .null, .int 0])), (a1, .inl (δ.2 0, 6, .inl (upd (upd (upd (upd (fun _ => 0) 0 (nI 1)) 1 (nI 1)) 2 (nI 1)) 3 (nI 1))))]) hD rfl
  change G κ _ δ _ _ _ _ [(r, .inr (2, [.int 0, .null, .null, .null, .null, .int 0, .int 0, .null, .null, .int 0])), (a1, .inl (δ.2 0, 6, .inl (upd (upd (upd (upd (fun _ => 0) 0 (nI 1)) 1 (nI 1)) 2 (nI 1)) 3 (nI 1))))] _ _ _
  refine g_dup X d_R_init_25 rfl ?_
  refine g_iconst X (v := nI 4) d_R_init_26 (by decide) ?_
  refine g_iconst X (v := nI 1) d_R_init_27 (by decide) ?_
  refine g_iast X hD (q0 := 1) rfl (j := 4) rfl (by decide) (by decide) d_R_init_28 ?_
  have hD := va_D_addr (ws' := [(r, .inr (2, [.int 0, .null, .null, .null, .null, .int 0, .int 0, .null, .null, .int 0])), (a1, .inl (δ.2 0, 6, .inl (upd (upd (upd (upd (upd (fun _ => 0) 0 (nI 1)) 1 (nI 1)) 2 (nI 1)) 3 (nI 1)) 4 (nI 1))))]) hD rfl
  change G κ _ δ _ _ _ _ [(r, .inr (2, [.int 0, .null, .null, .null, .null, .int 0, .int 0, .null, .null, .int 0])), (a1, .inl (δ.2 0, 6, .inl (upd (upd (upd (upd (upd (fun _ => 0) 0 (nI 1)) 1 (nI 1)) 2 (nI 1)) 3 (nI 1)) 4 (nI 1))))] _ _ _
  refine g_dup X d_R_init_29 rfl ?_
  refine g_iconst X (v := nI 5) d_R_init_30 (by decide) ?_
  refine g_iconst X (v := nI 1) d_R_init_31 (by decide) ?_
  refine g_iast X hD (q0 := 1) rfl (j := 5) rfl (by decide) (by decide) d_R_init_32 ?_
  have hD := va_D_addr (ws' := [(r, .inr (2, [.int 0, .null, .null, .null, .null, .int 0, .int 0, .null, .null, .int 0])), (a1, .inl (δ.2 0, 6, .inl (upd (upd (upd (upd (upd (upd (fun _ => 0) 0 (nI 1)) 1 (nI 1)) 2 (nI 1)) 3 (nI 1)) 4 (nI 1)) 5 (nI 1))))]) hD rfl
  change G κ _ δ _ _ _ _ [(r, .inr (2, [.int 0, .null, .null, .null, .null, .int 0, .int 0, .null, .null, .int 0])), (a1, .inl (δ.2 0, 6, .inl (upd (upd (upd (upd (upd (upd (fun _ => 0) 0 (nI 1)) 1 (nI 1)) 2 (nI 1)) 3 (nI 1)) 4 (nI 1)) 5 (nI 1))))] _ _ _
  refine g_putF X hnm in_R (ci := 2) rfl t_R_ok n_R hD (q0 := 0) rfl (k := 1) (ty := .array .int) (by decide) rfl kf_R_7 rfl (by decide +kernel) rfl rfl (Nat.lt_of_lt_of_eq (by decide : _ < 10) rfl) d_R_init_33 (fun hD => ?_)
  have hD := va_D_addr (ws' := [(r, .inr (2, [.int 0, .ref a1, .null, .null, .null, .int 0, .int 0, .null, .null, .int 0])), (a1, .inl (δ.2 0, 6, .inl (upd (upd (upd (upd (upd (upd (fun _ => 0) 0 (nI 1)) 1 (nI 1)) 2 (nI 1)) 3 (nI 1)) 4 (nI 1)) 5 (nI 1))))]) hD rfl
  change G κ _ δ _ _ _ _ [(r, .inr (2, [.int 0, .ref a1, .null, .null, .null, .int 0, .int 0, .null, .null, .int 0])), (a1, .inl (δ.2 0, 6, .inl (upd (upd (upd (upd (upd (upd (fun _ => 0) 0 (nI 1)) 1 (nI 1)) 2 (nI 1)) 3 (nI 1)) 4 (nI 1)) 5 (nI 1))))] _ _ _
  refine g_aload_n X 0 d_R_init_36 rfl rfl ?_
  refine g_bipush X (v := nI 6) d_R_init_37 (by decide) ?_
  refine g_newa X hD (atype := .int) (N := 6) (t0 := 0) kai rfl rfl (a0 := (6, .inl (fun _ => 0))) (fun _ => rfl) (by decide) (by decide) (Nat.le_of_ble_eq_true rfl) (Nat.le_of_ble_eq_true rfl) d_R_init_39 (fun a2 hD => ?_)
  refine g_dup X d_R_init_41 rfl ?_
  refine g_iconst X (v := nI 0) d_R_init_42 (by decide) ?_
  refine g_iconst X (v := nI 1) d_R_init_43 (by decide) ?_
  refine g_iast X hD (q0 := 2) rfl (j := 0) rfl (by decide) (by decide) d_R_init_44 ?_
  have hD := va_D_addr (ws' := [(r, .inr (2, [.int 0, .ref a1, .null, .null, .null, .int 0, .int 0, .null, .null, .int 0])), (a1, .inl (δ.2 0, 6, .inl (upd (upd (upd (upd (upd (upd (fun _ => 0) 0 (nI 1)) 1 (nI 1)) 2 (nI 1)) 3 (nI 1)) 4 (nI 1)) 5 (nI 1)))), (a2, .inl (δ.2 0, 6, .inl (upd (fun _ => 0) 0 (nI 1))))]) hD rfl
  change G κ _ δ _ _ _ _ [(r, .inr (2, [.int 0, .ref a1, .null, .null, .null, .int 0, .int 0, .null, .null, .int 0])), (a1, .inl (δ.2 0, 6, .inl (upd (upd (upd (upd (upd (upd (fun _ => 0) 0 (nI 1)) 1 (nI 1)) 2 (nI 1)) 3 (nI 1)) 4 (nI 1)) 5 (nI 1)))), (a2, .inl (δ.2 0, 6, .inl (upd (fun _ => 0) 0 (nI 1))))] _ _ _
  refine g_dup X d_R_init_45 rfl ?_
  refine g_iconst X (v := nI 1) d_R_init_46 (by decide) ?_
  refine g_iconst X (v := nI 1) d_R_init_47 (by decide) ?_
  refine g_iast X hD (q0 := 2) rfl (j := 1) rfl (by decide) (by decide) d_R_init_48 ?_
  have hD := va_D_addr (ws' := [(r, .inr (2, [.int 0, .ref a1, .null, .null, .null, .int 0, .int 0, .null, .null, .int 0])), (a1, .inl (δ.2 0, 6, .inl (upd (upd (upd (upd (upd (upd (fun _ => 0) 0 (nI 1)) 1 (nI 1)) 2 (nI 1)) 3 (nI 1)) 4 (nI 1)) 5 (nI 1)))), (a2, .inl (δ.2 0, 6, .inl (upd (upd (fun _ => 0) 0 (nI 1)) 1 (nI 1))))]) hD rfl
  change G κ _ δ _ _ _ _ [(r, .inr (2, [.int 0, .ref a1, .null, .null, .null, .int 0, .int 0, .null, .null, .int 0])), (a1, .inl (δ.2 0, 6, .inl (upd (upd (upd (upd (upd (upd (fun _ => 0) 0 (nI 1)) 1 (nI 1)) 2 (nI 1)) 3 (nI 1)) 4 (nI 1)) 5 (nI 1)))), (a2, .inl (δ.2 0, 6, .inl (upd (upd (fun _ => 0) 0 (nI 1)) 1 (nI 1))))] _ _ _
  refine g_dup X d_R_init_49 rfl ?_
  refine g_iconst X (v := nI 2) d_R_init_50 (by decide) ?_
  refine g_iconst X (v := nI 1) d_R_init_51 (by decide) ?_
  refine g_iast X hD (q0 := 2) rfl (j := 2) rfl (by decide) (by decide) d_R_init_52 ?_
  have hD := va_D_addr (ws' := [(r, .inr (2, [.int 0, .ref a1, .null, .null, .null, .int 0, .int 0, .null, .null, .int 0])), (a1, .inl (δ.2 0, 6, .inl (upd (upd (upd (upd (upd (upd (fun _ => 0) 0 (nI 1)) 1 (nI 1)) 2 (nI 1)) 3 (nI 1)) 4 (nI 1)) 5 (nI 1)))), (a2, .inl (δ.2 0, 6, .inl (upd (upd (upd (fun _ => 0) 0 (nI 1)) 1 (nI 1)) 2 (nI 1))))]) hD rfl
  change G κ _ δ _ _ _ _ [(r, .inr (2, [.int 0, .ref a1, .null, .null, .null, .int 0, .int 0, .null, .null, .int 0])), (a1, .inl (δ.2 0, 6, .inl (upd (upd (upd (upd (upd (upd (fun _ => 0) 0 (nI 1)) 1 (nI 1)) 2 (nI 1)) 3 (nI 1)) 4 (nI 1)) 5 (nI 1)))), (a2, .inl (δ.2 0, 6, .inl (upd (upd (upd (fun _ => 0) 0 (nI 1)) 1 (nI 1)) 2 (nI 1))))] _ _ _
  refine g_dup X d_R_init_53 rfl ?_
  refine g_iconst X (v := nI 3) d_R_init_54 (by decide) ?_
  refine g_iconst X (v := nI 1) d_R_init_55 (by decide) ?_
  refine g_iast X hD (q0 := 2) rfl (j := 3) rfl (by decide) (by decide) d_R_init_56 ?_
  have hD := va_D_addr (ws' := [(r, .inr (2, [.int 0, .ref a1, .null, .null, .null, .int 0, .int 0, .null, .null, .int 0])), (a1, .inl (δ.2 0, 6, .inl (upd (upd (upd (upd (upd (upd (fun _ => 0) 0 (nI 1)) 1 (nI 1)) 2 (nI 1)) 3 (nI 1)) 4 (nI 1)) 5 (nI 1)))), (a2, .inl (δ.2 0, 6, .inl (upd (upd (upd (upd (fun _ => 0) 0 (nI 1)) 1 (nI 1)) 2 (nI 1)) 3 (nI 1))))]) hD rfl
  change G κ _ δ _ _ _ _ [(r, .inr (2, [.int 0, .ref a1, .null, .null, .null, .int 0, .int 0, .null, .null, .int 0])), (a1, .inl (δ.2 0, 6, .inl (upd (upd (upd (upd (upd (upd (fun _ => 0) 0 (nI 1)) 1 (nI 1)) 2 (nI 1)) 3 (nI 1)) 4 (nI 1)) 5 (nI 1)))), (a2, .inl (δ.2 0, 6, .inl (upd (upd (upd (upd (fun _ => 0) 0 (nI 1)) 1 (nI 1)) 2 (nI 1)) 3 (nI 1))))] _ _ _
  refine g_dup X d_R_init_57 rfl ?_
  refine g_iconst X (v := nI 4) d_R_init_58 (by decide) ?_
  refine g_iconst X (v := nI 1) d_R_init_59 (by decide) ?_
  refine g_iast X hD (q0 := 2) rfl (j := 4) rfl (by decide) (by decide) d_R_init_60 ?_
  have hD := va_D_addr (ws' := [(r, .inr (2, [.int 0, .ref a1, .null, .null, .null, .int 0, .int 0, .null, .null, .int 0])), (a1, .inl (δ.2 0, 6, .inl (upd (upd (upd (upd (upd (upd (fun _ => 0) 0 (nI 1)) 1 (nI 1)) 2 (nI 1)) 3 (nI 1)) 4 (nI 1)) 5 (nI 1)))), (a2, .inl (δ.2 0, 6, .inl (upd (upd (upd (upd (upd (fun _ => 0) 0 (nI 1)) 1 (nI 1)) 2 (nI 1)) 3 (nI 1)) 4 (nI 1))))]) hD rfl
  change G κ _ δ _ _ _ _ [(r, .inr (2, [.int 0, .ref a1, .null, .null, .null, .int 0, .int 0, .null, .null, .int 0])), (a1, .inl (δ.2 0, 6, .inl (upd (upd (upd (upd (upd (upd (fun _ => 0) 0 (nI 1)) 1 (nI 1)) 2 (nI 1)) 3 (nI 1)) 4 (nI 1)) 5 (nI 1)))), (a2, .inl (δ.2 0, 6, .inl (upd (upd (upd (upd (upd (fun _ => 0) 0 (nI 1)) 1 (nI 1)) 2 (nI 1)) 3 (nI 1)) 4 (nI 1))))] _ _ _
  refine g_dup X d_R_init_61 rfl ?_
  refine g_iconst X (v := nI 5) d_R_init_62 (by decide) ?_
  refine g_iconst X (v := nI 1) d_R_init_63 (by decide) ?_
  refine g_iast X hD (q0 := 2) rfl (j := 5) rfl (by decide) (by decide) d_R_init_64 ?_
  have hD := va_D_addr (ws' := [(r, .inr (2, [.int 0, .ref a1, .null, .null, .null, .int 0, .int 0, .null, .null, .int 0])), (a1, .inl (δ.2 0, 6, .inl (upd (upd (upd (upd (upd (upd (fun _ => 0) 0 (nI 1)) 1 (nI 1)) 2 (nI 1)) 3 (nI 1)) 4 (nI 1)) 5 (nI 1)))), (a2, .inl (δ.2 0, 6, .inl (upd (upd (upd (upd (upd (upd (fun _ => 0) 0 (nI 1)) 1 (nI 1)) 2 (nI 1)) 3 (nI 1)) 4 (nI 1)) 5 (nI 1))))]) hD rfl
  change G κ _ δ _ _ _ _ [(r, .inr (2, [.int 0, .ref a1, .null, .null, .null, .int 0, .int 0, .null, .null, .int 0])), (a1, .inl (δ.2 0, 6, .inl (upd (upd (upd (upd (upd (upd (fun _ => 0) 0 (nI 1)) 1 (nI 1)) 2 (nI 1)) 3 (nI 1)) 4 (nI 1)) 5 (nI 1)))), (a2, .inl (δ.2 0, 6, .inl (upd (upd (upd (upd (upd (upd (fun _ => 0) 0 (nI 1)) 1 (nI 1)) 2 (nI 1)) 3 (nI 1)) 4 (nI 1)) 5 (nI 1))))] _ _ _
  refine g_putF X hnm in_R (ci := 2) rfl t_R_ok n_R hD (q0 := 0) rfl (k := 2) (ty := .array .int) (by decide) rfl kf_R_13 rfl (by decide +kernel) rfl rfl (Nat.lt_of_lt_of_eq (by decide : _ < 10) rfl) d_R_init_65 (fun hD => ?_)
  have hD := va_D_addr (ws' := [(r, .inr (2, [.int 0, .ref a1, .ref a2, .null, .null, .int 0, .int 0, .null, .null, .int 0])), (a1, .inl (δ.2 0, 6, .inl (upd (upd (upd (upd (upd (upd (fun _ => 0) 0 (nI 1)) 1 (nI 1)) 2 (nI 1)) 3 (nI 1)) 4 (nI 1)) 5 (nI 1)))), (a2, .inl (δ.2 0, 6, .inl (upd (upd (upd (upd (upd (upd (fun _ => 0) 0 (nI 1)) 1 (nI 1)) 2 (nI 1)) 3 (nI 1)) 4 (nI 1)) 5 (nI 1))))]) hD rfl
  change G κ _ δ _ _ _ _ [(r, .inr (2, [.int 0, .ref a1, .ref a2, .null, .null, .int 0, .int 0, .null, .null, .int 0])), (a1, .inl (δ.2 0, 6, .inl (upd (upd (upd (upd (upd (upd (fun _ => 0) 0 (nI 1)) 1 (nI 1)) 2 (nI 1)) 3 (nI 1)) 4 (nI 1)) 5 (nI 1)))), (a2, .inl (δ.2 0, 6, .inl (upd (upd (upd (upd (upd (upd (fun _ => 0) 0 (nI 1)) 1 (nI 1)) 2 (nI 1)) 3 (nI 1)) 4 (nI 1)) 5 (nI 1))))] _ _ _
  refine g_aload_n X 0 d_R_init_68 rfl rfl ?_
  refine g_sipush X (v := nI 384) d_R_init_69 (by decide) ?_
  refine g_newa X hD (atype := .boolean) (N := 384) (t0 := 2) kaz rfl rfl (a0 := (384, .inl (fun _ => b2 false))) (fun _ => rfl) (by decide) (by decide) (Nat.le_of_ble_eq_true rfl) (Nat.le_of_ble_eq_true rfl) d_R_init_72 (fun a3 hD => ?_)
  refine g_putF X hnm in_R (ci := 2) rfl t_R_ok n_R hD (q0 := 0) rfl (k := 3) (ty := .array .boolean) (by decide) rfl kf_R_16 rfl (by decide +kernel) rfl rfl (Nat.lt_of_lt_of_eq (by decide : _ < 10) rfl) d_R_init_74 (fun hD => ?_)
  have hD := va_D_addr (ws' := [(r, .inr (2, [.int 0, .ref a1, .ref a2, .ref a3, .null, .int 0, .int 0, .null, .null, .int 0])), (a1, .inl (δ.2 0, 6, .inl (upd (upd (upd (upd (upd (upd (fun _ => 0) 0 (nI 1)) 1 (nI 1)) 2 (nI 1)) 3 (nI 1)) 4 (nI 1)) 5 (nI 1)))), (a2, .inl (δ.2 0, 6, .inl (upd (upd (upd (upd (upd (upd (fun _ => 0) 0 (nI 1)) 1 (nI 1)) 2 (nI 1)) 3 (nI 1)) 4 (nI 1)) 5 (nI 1)))), (a3, .inl (δ.2 2, 384, .inl (fun _ => b2 false)))]) hD rfl
  change G κ _ δ _ _ _ _ [(r, .inr (2, [.int 0, .ref a1, .ref a2, .ref a3, .null, .int 0, .int 0, .null, .null, .int 0])), (a1, .inl (δ.2 0, 6, .inl (upd (upd (upd (upd (upd (upd (fun _ => 0) 0 (nI 1)) 1 (nI 1)) 2 (nI 1)) 3 (nI 1)) 4 (nI 1)) 5 (nI 1)))), (a2, .inl (δ.2 0, 6, .inl (upd (upd (upd (upd (upd (upd (fun _ => 0) 0 (nI 1)) 1 (nI 1)) 2 (nI 1)) 3 (nI 1)) 4 (nI 1)) 5 (nI 1)))), (a3, .inl (δ.2 2, 384, .inl (fun _ => b2 false)))] _ _ _
  refine g_aload_n X 0 d_R_init_77 rfl rfl ?_
  refine g_sipush X (v := nI 384) d_R_init_78 (by decide) ?_
  refine g_newa X hD (atype := .long) (N := 384) (t0 := 1) kal rfl rfl (a0 := (384, .inr (.inl (fun _ => 0)))) (fun _ => rfl) (by decide) (by decide) (Nat.le_of_ble_eq_true rfl) (Nat.le_of_ble_eq_true rfl) d_R_init_81 (fun a4 hD => ?_)
  refine g_putF X hnm in_R (ci := 2) rfl t_R_ok n_R hD (q0 := 0) rfl (k := 4) (ty := .array .long) (by decide) rfl kf_R_20 rfl (by decide +kernel) rfl rfl (Nat.lt_of_lt_of_eq (by decide : _ < 10) rfl) d_R_init_83 (fun hD => ?_)
  have hD := va_D_addr (ws' := [(r, .inr (2, [.int 0, .ref a1, .ref a2, .ref a3, .ref a4, .int 0, .int 0, .null, .null, .int 0])), (a1, .inl (δ.2 0, 6, .inl (upd (upd (upd (upd (upd (upd (fun _ => 0) 0 (nI 1)) 1 (nI 1)) 2 (nI 1)) 3 (nI 1)) 4 (nI 1)) 5 (nI 1)))), (a2, .inl (δ.2 0, 6, .inl (upd (upd (upd (upd (upd (upd (fun _ => 0) 0 (nI 1)) 1 (nI 1)) 2 (nI 1)) 3 (nI 1)) 4 (nI 1)) 5 (nI 1)))), (a3, .inl (δ.2 2, 384, .inl (fun _ => b2 false))), (a4, .inl (δ.2 1, 384, .inr (.inl (fun _ => 0))))]) hD rfl
  change G κ _ δ _ _ _ _ [(r, .inr (2, [.int 0, .ref a1, .ref a2, .ref a3, .ref a4, .int 0, .int 0, .null, .null, .int 0])), (a1, .inl (δ.2 0, 6, .inl (upd (upd (upd (upd (upd (upd (fun _ => 0) 0 (nI 1)) 1 (nI 1)) 2 (nI 1)) 3 (nI 1)) 4 (nI 1)) 5 (nI 1)))), (a2, .inl (δ.2 0, 6, .inl (upd (upd (upd (upd (upd (upd (fun _ => 0) 0 (nI 1)) 1 (nI 1)) 2 (nI 1)) 3 (nI 1)) 4 (nI 1)) 5 (nI 1)))), (a3, .inl (δ.2 2, 384, .inl (fun _ => b2 false))), (a4, .inl (δ.2 1, 384, .inr (.inl (fun _ => 0))))] _ _ _
  refine g_aload_n X 0 d_R_init_86 rfl rfl ?_
  refine g_bipush X (v := nI 64) d_R_init_87 (by decide) ?_
  refine g_newa X hD (atype := .boolean) (N := 64) (t0 := 2) kaz rfl rfl (a0 := (64, .inl (fun _ => b2 false))) (fun _ => rfl) (by decide) (by decide) (Nat.le_of_ble_eq_true rfl) (Nat.le_of_ble_eq_true rfl) d_R_init_89 (fun a5 hD => ?_)
  refine g_putF X hnm in_R (ci := 2) rfl t_R_ok n_R hD (q0 := 0) rfl (k := 7) (ty := .array .boolean) (by decide) rfl kf_R_24 rfl (by decide +kernel) rfl rfl (Nat.lt_of_lt_of_eq (by decide : _ < 10) rfl) d_R_init_91 (fun hD => ?_)
  have hD := va_D_addr (ws' := [(r, .inr (2, [.int 0, .ref a1, .ref a2, .ref a3, .ref a4, .int 0, .int 0, .ref a5, .null, .int 0])), (a1, .inl (δ.2 0, 6, .inl (upd (upd (upd (upd (upd (upd (fun _ => 0) 0 (nI 1)) 1 (nI 1)) 2 (nI 1)) 3 (nI 1)) 4 (nI 1)) 5 (nI 1)))), (a2, .inl (δ.2 0, 6, .inl (upd (upd (upd (upd (upd (upd (fun _ => 0) 0 (nI 1)) 1 (nI 1)) 2 (nI 1)) 3 (nI 1)) 4 (nI 1)) 5 (nI 1)))), (a3, .inl (δ.2 2, 384, .inl (fun _ => b2 false))), (a4, .inl (δ.2 1, 384, .inr (.inl (fun _ => 0)))), (a5, .inl (δ.2 2, 64, .inl (fun _ => b2 false)))]) hD rfl
  change G κ _ δ _ _ _ _ [(r, .inr (2, [.int 0, .ref a1, .ref a2, .ref a3, .ref a4, .int 0, .int 0, .ref a5, .null, .int 0])), (a1, .inl (δ.2 0, 6, .inl (upd (upd (upd (upd (upd (upd (fun _ => 0) 0 (nI 1)) 1 (nI 1)) 2 (nI 1)) 3 (nI 1)) 4 (nI 1)) 5 (nI 1)))), (a2, .inl (δ.2 0, 6, .inl (upd (upd (upd (upd (upd (upd (fun _ => 0) 0 (nI 1)) 1 (nI 1)) 2 (nI 1)) 3 (nI 1)) 4 (nI 1)) 5 (nI 1)))), (a3, .inl (δ.2 2, 384, .inl (fun _ => b2 false))), (a4, .inl (δ.2 1, 384, .inr (.inl (fun _ => 0)))), (a5, .inl (δ.2 2, 64, .inl (fun _ => b2 false)))] _ _ _
  refine g_aload_n X 0 d_R_init_94 rfl rfl ?_
  refine g_bipush X (v := nI 64) d_R_init_95 (by decide) ?_
  refine g_newa X hD (atype := .long) (N := 64) (t0 := 1) kal rfl rfl (a0 := (64, .inr (.inl (fun _ => 0)))) (fun _ => rfl) (by decide) (by decide) (Nat.le_of_ble_eq_true rfl) (Nat.le_of_ble_eq_true rfl) d_R_init_97 (fun a6 hD => ?_)
  refine g_putF X hnm in_R (ci := 2) rfl t_R_ok n_R hD (q0 := 0) rfl (k := 8) (ty := .array .long) (by decide) rfl kf_R_27 rfl (by decide +kernel) rfl rfl (Nat.lt_of_lt_of_eq (by decide : _ < 10) rfl) d_R_init_99 (fun hD => ?_)
  have hD := va_D_addr (ws' := [(r, .inr (2, [.int 0, .ref a1, .ref a2, .ref a3, .ref a4, .int 0, .int 0, .ref a5, .ref a6, .int 0])), (a1, .inl (δ.2 0, 6, .inl (upd (upd (upd (upd (upd (upd (fun _ => 0) 0 (nI 1)) 1 (nI 1)) 2 (nI 1)) 3 (nI 1)) 4 (nI 1)) 5 (nI 1)))), (a2, .inl (δ.2 0, 6, .inl (upd (upd (upd (upd (upd (upd (fun _ => 0) 0 (nI 1)) 1 (nI 1)) 2 (nI 1)) 3 (nI 1)) 4 (nI 1)) 5 (nI 1)))), (a3, .inl (δ.2 2, 384, .inl (fun _ => b2 false))), (a4, .inl (δ.2 1, 384, .inr (.inl (fun _ => 0)))), (a5, .inl (δ.2 2, 64, .inl (fun _ => b2 false))), (a6, .inl (δ.2 1, 64, .inr (.inl (fun _ => 0))))]) hD rfl
  change G κ _ δ _ _ _ _ [(r, .inr (2, [.int 0, .ref a1, .ref a2, .ref a3, .ref a4, .int 0, .int 0, .ref a5, .ref a6, .int 0])), (a1, .inl (δ.2 0, 6, .inl (upd (upd (upd (upd (upd (upd (fun _ => 0) 0 (nI 1)) 1 (nI 1)) 2 (nI 1)) 3 (nI 1)) 4 (nI 1)) 5 (nI 1)))), (a2, .inl (δ.2 0, 6, .inl (upd (upd (upd (upd (upd (upd (fun _ => 0) 0 (nI 1)) 1 (nI 1)) 2 (nI 1)) 3 (nI 1)) 4 (nI 1)) 5 (nI 1)))), (a3, .inl (δ.2 2, 384, .inl (fun _ => b2 false))), (a4, .inl (δ.2 1, 384, .inr (.inl (fun _ => 0)))), (a5, .inl (δ.2 2, 64, .inl (fun _ => b2 false))), (a6, .inl (δ.2 1, 64, .inr (.inl (fun _ => 0))))] _ _ _
  have e : upd (upd (upd (upd (upd (upd (fun _ => 0) 0 (nI 1)) 1 (nI 1)) 2 (nI 1)) 3 (nI 1)) 4 (nI 1)) 5 (nI 1) = fun i => nI ((fun i => if i < 6 then 1 else 0) i) := by
    funext i
    rcases i with _ | _ | _ | _ | _ | _ | i
    · rfl
    · rfl
    · rfl
    · rfl
    · rfl
    · rfl
    · simp [upd]
      rfl
  rw [e] at hD ⊢
  exact i_vret X hD d_R_init_102 ⟨rfl, adL [r, a1, a2, a3, a4, a5, a6], rfl, rfl⟩
end INI
