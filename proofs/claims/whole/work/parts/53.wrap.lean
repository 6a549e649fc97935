section WR
/-! the law's wrappers -/
def oA (δ : EX) (f : Nat → Int64) : va_E := .inl (δ.2 1, 1, .inr (.inl f))
def Bo (ad : Nat → Nat) (o : Nat) : Nat → Prop := fun q => Ar ad q ∨ q = o
/-- what a wrapper answers: 0 and the answer in the array, or the number of the exception -/
def WO (δ : EX) (o : Nat) (f : Nat → Int64) (cd : Nat → Nat) (cv : Option Value → Option Int64) (P : OC → va_W → Prop) : Option Value → va_W → Prop := fun v w =>
  (∃ u w1, P (.inr u) w1 ∧ v = some (.int (nI 0)) ∧ w = w1 ++ [(o, oA δ (match cv u with | some x => vp_updL f 0 x | none => f))]) ∨ (∃ z w1, P (.inl z) w1 ∧ v = some (.int (nI (cd z))) ∧ w = w1 ++ [(o, oA δ f)])
def cvV : Option Value → Option Int64 := fun _ => none
def cvI : Option Value → Option Int64 := fun u => match u with | some (.int x) => some x.toInt64 | _ => none
def cvL : Option Value → Option Int64 := fun u => match u with | some (.long x) => some x | _ => none
def cvZ : Option Value → Option Int64 := fun u => match u with | some (.int x) => some (if x = 0 then 0 else 1) | _ => none
variable {κ : KX} {own : String} {cc : ByteArray} {nL : Nat} {rt : Option FieldType} {δ : EX} {rm : Room} {A0 : Nat → Prop} {hh : List (Nat × Nat × Nat × Nat)} {Q : State → Prop} {cs sl : Nat} {lv : List (Nat × Value)} {st : List Value} {pc : Nat}
theorem oA_D {ad : Nat → Nat} {o n : Nat} {f : Nat → Int64} {w1 : va_W} (ho : ¬ Ar ad o) (h : va_D (Ar ad) w1) : va_D (fun q => Bo ad o q ∨ n ≤ q) (w1 ++ [(o, oA δ f)]) :=
  va_D_app (H := #[]) ⟨h.1, fun k q hk => Or.inl (Or.inl (h.2 k q hk))⟩ (va_D_1 (A := fun q => q = o) (a := o) rfl) (fun k q hk e => ho (e ▸ h.2 k q hk)) (fun q e => Or.inl (Or.inr e))
theorem g_out (X : XO κ own cc nL rt δ rm A0 hh) {o : Nat} {f : Nat → Int64} {w1 : va_W} (hD : va_D (fun q => A0 q ∨ (xs κ).heap.size ≤ q) (w1 ++ [(o, oA δ f)])) {x : Int64} (hd : decode cc pc = .ok (.lastore, 1)) (n : G κ nL δ (Kn κ A0) Q cs sl (w1 ++ [(o, oA δ (vp_updL f 0 x))]) lv st (pc + 1)) : G κ nL δ (Kn κ A0) Q cs sl (w1 ++ [(o, oA δ f)]) lv (.long x :: .int (nI 0) :: .ref o :: st) pc := by
  refine g_last X hD (q0 := w1.length) (by rw [List.getElem?_append_right (Nat.le_refl _), Nat.sub_self]; rfl) rfl (by decide : 0 < 1) (by decide) hd ?_
  have e : (w1 ++ [(o, oA δ f)]).set w1.length (o, .inl (δ.2 1, 1, .inr (.inl (vp_updL f 0 x)))) = w1 ++ [(o, oA δ (vp_updL f 0 x))] := by
    rw [List.set_append_right _ _ (Nat.le_refl _), Nat.sub_self]
    rfl
  rw [e]
  exact n
set_option maxHeartbeats 4000000 in
set_option maxRecDepth 100000 in
theorem c_L_shape {l : Launch} (htr : l.stackTraces = false) {δ : EX} {ad : Nat → Nat} {M : DS} {o : Nat} {f : Nat → Int64} (ho : ¬ Ar ad o) (hinj : Inj ad) {x0 : Int32} {x1 : Int32} {x2 : Int32} {P : OC → va_W → Prop} (hC : CT l y_D_shape cw_D_shape (RM 2) δ (Ar ad) (dl δ ad M) [.ref (ad 0), .int x0, .int x1, .int x2] P) (hPD : ∀ r w, P r w → va_D (Ar ad) w) (hk : ∀ z w, P (.inl z) w → z = 1) (hv : ∀ u w, P (.inr u) w → u = none) : CI Ncs l y_L_shape cw_L_shape (RM 3) δ (Bo ad o) (dl δ ad M ++ [(o, oA δ f)]) [.ref (ad 0), .int x0, .int x1, .int x2] 1 6 (WO δ o f (fun z => if z = 1 then 1 else 0) cvV P) := by
  refine CI.of (hh := [(0, 7, 10, 13)]) (lv := [(0, .ref (ad 0)), (1, .int x0), (2, .int x1), (3, .int x2)]) (Or.inr rfl) (by decide) htr rfl (Nat.le_of_ble_eq_true rfl) (fun κ hl X hnm hE => ?_)
  subst hl
  refine g_aload_n X 0 d_L_shape_0 rfl rfl ?_
  refine g_iload_n X 1 d_L_shape_1 rfl rfl ?_
  refine g_iload_n X 2 d_L_shape_2 rfl rfl ?_
  refine g_iload_n X 3 d_L_shape_3 rfl rfl ?_
  refine g_callC hE X (inv_V X (hh2 := []) (av := [.int x0, .int x1, .int x2]) (rest := []) (Or.inl rfl) v_L_7.2.2.2.1 v_L_7.1 v_L_7.2.1.1 v_L_7.2.1.2 v_L_7.2.2.2.2.1 v_L_7.2.2.2.2.2 d_L_shape_4 rfl dl_0 rfl) hC (fun q hq => Or.inl (Or.inl hq)) (Spl.l (b := [(o, oA δ f)]) (fun k q hk => ?_)) (hh2 := []) (Or.inl rfl) v_L_7.2.2.2.1 v_L_7.2.2.1 d_L_shape_4 ⟨(Nat.le_of_ble_eq_true rfl), (Nat.le_of_ble_eq_true rfl), (Nat.le_of_ble_eq_true rfl), (Nat.le_of_ble_eq_true rfl)⟩ (fun z => if z = 1 then 10 else 0) (fun z w hp => ?_) (fun u w hp => ?_) (fun z w x hp => ?_)
  · have hz : k < 1 := (List.getElem?_eq_some_iff.mp hk).1
    have h0 : k = 0 := by omega
    subst h0
    cases hk
    exact ho
  · rcases hk z w hp with rfl
    · exact ⟨[], (0, 7, 10, 13), [], rfl, (fun y hy => by cases hy), by decide, by decide, rfl, by decide, kk_L_13, kca_IllegalArgumentException⟩
  · obtain rfl := hv u w hp
    refine g_goto X 14 d_L_shape_7 (by decide) ?_
    refine g_iconst X (v := nI 0) d_L_shape_14 (by decide) ?_
    refine g_widen (k := 1) (n := 6) (by decide) (by decide) ?_
    exact i_iret X (oA_D ho (hPD _ _ hp)) d_L_shape_15 (Or.inl ⟨_, w, hp, rfl, rfl⟩)
  · rcases hk z w hp with rfl
    · refine g_astore X d_L_shape_10 (by decide) ?_
      refine g_iconst X (v := nI 1) d_L_shape_12 (by decide) ?_
      exact i_iret X (oA_D ho (hPD _ _ hp)) d_L_shape_13 (Or.inr ⟨_, w, hp, rfl, rfl⟩)
set_option maxHeartbeats 4000000 in
set_option maxRecDepth 100000 in
theorem c_L_put {l : Launch} (htr : l.stackTraces = false) {δ : EX} {ad : Nat → Nat} {M : DS} {o : Nat} {f : Nat → Int64} (ho : ¬ Ar ad o) (hinj : Inj ad) {x0 : Int32} {x1 : Int32} {x2 : Int32} {x3 : Int64} {P : OC → va_W → Prop} (hC : CT l y_D_put cw_D_put (RM 2) δ (Ar ad) (dl δ ad M) [.ref (ad 0), .int x0, .int x1, .int x2, .long x3] P) (hPD : ∀ r w, P r w → va_D (Ar ad) w) (hk : ∀ z w, P (.inl z) w → z = 1) (hv : ∀ u w, P (.inr u) w → u = none) : CI Ncs l y_L_put cw_L_put (RM 3) δ (Bo ad o) (dl δ ad M ++ [(o, oA δ f)]) [.ref (ad 0), .int x0, .int x1, .int x2, .long x3] 1 6 (WO δ o f (fun z => if z = 1 then 1 else 0) cvV P) := by
  refine CI.of (hh := [(0, 9, 12, 13)]) (lv := [(0, .ref (ad 0)), (1, .int x0), (2, .int x1), (3, .int x2), (4, .long x3)]) (Or.inr rfl) (by decide) htr rfl (Nat.le_of_ble_eq_true rfl) (fun κ hl X hnm hE => ?_)
  subst hl
  refine g_aload_n X 0 d_L_put_0 rfl rfl ?_
  refine g_iload_n X 1 d_L_put_1 rfl rfl ?_
  refine g_iload_n X 2 d_L_put_2 rfl rfl ?_
  refine g_iload_n X 3 d_L_put_3 rfl rfl ?_
  refine g_lload X d_L_put_4 rfl ?_
  refine g_callC hE X (inv_V X (hh2 := []) (av := [.int x0, .int x1, .int x2, .long x3]) (rest := []) (Or.inl rfl) v_L_15.2.2.2.1 v_L_15.1 v_L_15.2.1.1 v_L_15.2.1.2 v_L_15.2.2.2.2.1 v_L_15.2.2.2.2.2 d_L_put_6 rfl dl_0 rfl) hC (fun q hq => Or.inl (Or.inl hq)) (Spl.l (b := [(o, oA δ f)]) (fun k q hk => ?_)) (hh2 := []) (Or.inl rfl) v_L_15.2.2.2.1 v_L_15.2.2.1 d_L_put_6 ⟨(Nat.le_of_ble_eq_true rfl), (Nat.le_of_ble_eq_true rfl), (Nat.le_of_ble_eq_true rfl), (Nat.le_of_ble_eq_true rfl)⟩ (fun z => if z = 1 then 12 else 0) (fun z w hp => ?_) (fun u w hp => ?_) (fun z w x hp => ?_)
  · have hz : k < 1 := (List.getElem?_eq_some_iff.mp hk).1
    have h0 : k = 0 := by omega
    subst h0
    cases hk
    exact ho
  · rcases hk z w hp with rfl
    · exact ⟨[], (0, 9, 12, 13), [], rfl, (fun y hy => by cases hy), by decide, by decide, rfl, by decide, kk_L_13, kca_IllegalArgumentException⟩
  · obtain rfl := hv u w hp
    refine g_goto X 16 d_L_put_9 (by decide) ?_
    refine g_iconst X (v := nI 0) d_L_put_16 (by decide) ?_
    refine g_widen (k := 1) (n := 6) (by decide) (by decide) ?_
    exact i_iret X (oA_D ho (hPD _ _ hp)) d_L_put_17 (Or.inl ⟨_, w, hp, rfl, rfl⟩)
  · rcases hk z w hp with rfl
    · refine g_astore X d_L_put_12 (by decide) ?_
      refine g_iconst X (v := nI 1) d_L_put_14 (by decide) ?_
      exact i_iret X (oA_D ho (hPD _ _ hp)) d_L_put_15 (Or.inr ⟨_, w, hp, rfl, rfl⟩)
set_option maxHeartbeats 4000000 in
set_option maxRecDepth 100000 in
theorem c_L_drop {l : Launch} (htr : l.stackTraces = false) {δ : EX} {ad : Nat → Nat} {M : DS} {o : Nat} {f : Nat → Int64} (ho : ¬ Ar ad o) (hinj : Inj ad) {x0 : Int32} {x1 : Int32} {x2 : Int32} {P : OC → va_W → Prop} (hC : CT l y_D_drop cw_D_drop (RM 2) δ (Ar ad) (dl δ ad M) [.ref (ad 0), .int x0, .int x1, .int x2] P) (hPD : ∀ r w, P r w → va_D (Ar ad) w) (hk : ∀ z w, P (.inl z) w → z = 1) (hv : ∀ u w, P (.inr u) w → ∃ q, u = some (.int (b2 q))) : CI Ncs l y_L_drop cw_L_drop (RM 3) δ (Bo ad o) (dl δ ad M ++ [(o, oA δ f)]) [.ref (ad 0), .int x0, .int x1, .int x2, .ref o] 1 6 (WO δ o f (fun z => if z = 1 then 1 else 0) cvZ P) := by
  refine CI.of (hh := [(0, 19, 22, 13)]) (lv := [(0, .ref (ad 0)), (1, .int x0), (2, .int x1), (3, .int x2), (4, .ref o)]) (Or.inr rfl) (by decide) htr rfl (Nat.le_of_ble_eq_true rfl) (fun κ hl X hnm hE => ?_)
  subst hl
  refine g_aload X d_L_drop_0 rfl ?_
  refine g_iconst X (v := nI 0) d_L_drop_2 (by decide) ?_
  refine g_aload_n X 0 d_L_drop_3 rfl rfl ?_
  refine g_iload_n X 1 d_L_drop_4 rfl rfl ?_
  refine g_iload_n X 2 d_L_drop_5 rfl rfl ?_
  refine g_iload_n X 3 d_L_drop_6 rfl rfl ?_
  refine g_callC hE X (inv_V X (hh2 := []) (av := [.int x0, .int x1, .int x2]) (rest := [.int (nI 0), .ref o]) (Or.inl rfl) v_L_19.2.2.2.1 v_L_19.1 v_L_19.2.1.1 v_L_19.2.1.2 v_L_19.2.2.2.2.1 v_L_19.2.2.2.2.2 d_L_drop_7 rfl dl_0 rfl) hC (fun q hq => Or.inl (Or.inl hq)) (Spl.l (b := [(o, oA δ f)]) (fun k q hk => ?_)) (hh2 := []) (Or.inl rfl) v_L_19.2.2.2.1 v_L_19.2.2.1 d_L_drop_7 ⟨(Nat.le_of_ble_eq_true rfl), (Nat.le_of_ble_eq_true rfl), (Nat.le_of_ble_eq_true rfl), (Nat.le_of_ble_eq_true rfl)⟩ (fun z => if z = 1 then 22 else 0) (fun z w hp => ?_) (fun u w hp => ?_) (fun z w x hp => ?_)
  · have hz : k < 1 := (List.getElem?_eq_some_iff.mp hk).1
    have h0 : k = 0 := by omega
    subst h0
    cases hk
    exact ho
  · rcases hk z w hp with rfl
    · exact ⟨[], (0, 19, 22, 13), [], rfl, (fun y hy => by cases hy), by decide, by decide, rfl, by decide, kk_L_13, kca_IllegalArgumentException⟩
  · obtain ⟨xq, rfl⟩ := hv u w hp
    refine z_eq X 17 d_L_drop_10 (by decide) (fun hq => ?_) (fun hq => ?_)
    · subst hq
      refine g_lconst X (v := 0) d_L_drop_17 (by decide) ?_
      refine g_out X (oA_D ho (hPD _ _ hp)) d_L_drop_18 ?_
      refine g_goto X 26 d_L_drop_19 (by decide) ?_
      refine g_iconst X (v := nI 0) d_L_drop_26 (by decide) ?_
      refine g_widen (k := 1) (n := 6) (by decide) (by decide) ?_
      exact i_iret X (oA_D ho (hPD _ _ hp)) d_L_drop_27 (Or.inl ⟨_, w, hp, rfl, rfl⟩)
    · subst hq
      refine g_lconst X (v := 1) d_L_drop_13 (by decide) ?_
      refine g_goto X 18 d_L_drop_14 (by decide) ?_
      refine g_out X (oA_D ho (hPD _ _ hp)) d_L_drop_18 ?_
      refine g_goto X 26 d_L_drop_19 (by decide) ?_
      refine g_iconst X (v := nI 0) d_L_drop_26 (by decide) ?_
      refine g_widen (k := 1) (n := 6) (by decide) (by decide) ?_
      exact i_iret X (oA_D ho (hPD _ _ hp)) d_L_drop_27 (Or.inl ⟨_, w, hp, rfl, rfl⟩)
  · rcases hk z w hp with rfl
    · refine g_astore X d_L_drop_22 (by decide) ?_
      refine g_iconst X (v := nI 1) d_L_drop_24 (by decide) ?_
      exact i_iret X (oA_D ho (hPD _ _ hp)) d_L_drop_25 (Or.inr ⟨_, w, hp, rfl, rfl⟩)
set_option maxHeartbeats 4000000 in
set_option maxRecDepth 100000 in
theorem c_L_at {l : Launch} (htr : l.stackTraces = false) {δ : EX} {ad : Nat → Nat} {M : DS} {o : Nat} {f : Nat → Int64} (ho : ¬ Ar ad o) (hinj : Inj ad) {x0 : Int32} {x1 : Int32} {x2 : Int32} {P : OC → va_W → Prop} (hC : CT l y_D_at cw_D_at (RM 2) δ (Ar ad) (dl δ ad M) [.ref (ad 0), .int x0, .int x1, .int x2] P) (hPD : ∀ r w, P r w → va_D (Ar ad) w) (hk : ∀ z w, P (.inl z) w → z = 1 ∨ z = 3) (hv : ∀ u w, P (.inr u) w → ∃ x, u = some (.long x)) : CI Ncs l y_L_at cw_L_at (RM 3) δ (Bo ad o) (dl δ ad M ++ [(o, oA δ f)]) [.ref (ad 0), .int x0, .int x1, .int x2, .ref o] 1 6 (WO δ o f (fun z => if z = 1 then 1 else if z = 3 then 2 else 0) cvL P) := by
  refine CI.of (hh := [(0, 11, 14, 13), (0, 11, 18, 27)]) (lv := [(0, .ref (ad 0)), (1, .int x0), (2, .int x1), (3, .int x2), (4, .ref o)]) (Or.inr rfl) (by decide) htr rfl (Nat.le_of_ble_eq_true rfl) (fun κ hl X hnm hE => ?_)
  subst hl
  refine g_aload X d_L_at_0 rfl ?_
  refine g_iconst X (v := nI 0) d_L_at_2 (by decide) ?_
  refine g_aload_n X 0 d_L_at_3 rfl rfl ?_
  refine g_iload_n X 1 d_L_at_4 rfl rfl ?_
  refine g_iload_n X 2 d_L_at_5 rfl rfl ?_
  refine g_iload_n X 3 d_L_at_6 rfl rfl ?_
  refine g_callC hE X (inv_V X (hh2 := []) (av := [.int x0, .int x1, .int x2]) (rest := [.int (nI 0), .ref o]) (Or.inl rfl) v_L_23.2.2.2.1 v_L_23.1 v_L_23.2.1.1 v_L_23.2.1.2 v_L_23.2.2.2.2.1 v_L_23.2.2.2.2.2 d_L_at_7 rfl dl_0 rfl) hC (fun q hq => Or.inl (Or.inl hq)) (Spl.l (b := [(o, oA δ f)]) (fun k q hk => ?_)) (hh2 := []) (Or.inl rfl) v_L_23.2.2.2.1 v_L_23.2.2.1 d_L_at_7 ⟨(Nat.le_of_ble_eq_true rfl), (Nat.le_of_ble_eq_true rfl), (Nat.le_of_ble_eq_true rfl), (Nat.le_of_ble_eq_true rfl)⟩ (fun z => if z = 1 then 14 else if z = 3 then 18 else 0) (fun z w hp => ?_) (fun u w hp => ?_) (fun z w x hp => ?_)
  · have hz : k < 1 := (List.getElem?_eq_some_iff.mp hk).1
    have h0 : k = 0 := by omega
    subst h0
    cases hk
    exact ho
  · rcases hk z w hp with rfl | rfl
    · exact ⟨[], (0, 11, 14, 13), [(0, 11, 18, 27)], rfl, (fun y hy => by cases hy), by decide, by decide, rfl, by decide, kk_L_13, kca_IllegalArgumentException⟩
    · exact ⟨[(0, 11, 14, 13)], (0, 11, 18, 27), [], rfl, (fun y hy => by
        simp only [List.mem_cons, List.not_mem_nil, or_false] at hy
        rcases hy with rfl
        · exact ⟨by decide, 1, kk_L_13, by decide⟩), by decide, by decide, rfl, by decide, kk_L_27, kca_NoSuchElementException⟩
  · obtain ⟨xv, rfl⟩ := hv u w hp
    refine g_out X (oA_D ho (hPD _ _ hp)) d_L_at_10 ?_
    refine g_goto X 22 d_L_at_11 (by decide) ?_
    refine g_iconst X (v := nI 0) d_L_at_22 (by decide) ?_
    refine g_widen (k := 1) (n := 6) (by decide) (by decide) ?_
    exact i_iret X (oA_D ho (hPD _ _ hp)) d_L_at_23 (Or.inl ⟨_, w, hp, rfl, rfl⟩)
  · rcases hk z w hp with rfl | rfl
    · refine g_astore X d_L_at_14 (by decide) ?_
      refine g_iconst X (v := nI 1) d_L_at_16 (by decide) ?_
      exact i_iret X (oA_D ho (hPD _ _ hp)) d_L_at_17 (Or.inr ⟨_, w, hp, rfl, rfl⟩)
    · refine g_astore X d_L_at_18 (by decide) ?_
      refine g_iconst X (v := nI 2) d_L_at_20 (by decide) ?_
      exact i_iret X (oA_D ho (hPD _ _ hp)) d_L_at_21 (Or.inr ⟨_, w, hp, rfl, rfl⟩)
set_option maxHeartbeats 4000000 in
set_option maxRecDepth 100000 in
theorem c_L_size {l : Launch} (htr : l.stackTraces = false) {δ : EX} {ad : Nat → Nat} {M : DS} {o : Nat} {f : Nat → Int64} (ho : ¬ Ar ad o) (hinj : Inj ad) {x0 : Int32} {P : OC → va_W → Prop} (hC : CT l y_D_size cw_D_size (RM 2) δ (Ar ad) (dl δ ad M) [.ref (ad 0), .int x0] P) (hPD : ∀ r w, P r w → va_D (Ar ad) w) (hk : ∀ z w, P (.inl z) w → z = 1) (hv : ∀ u w, P (.inr u) w → ∃ x, u = some (.int x)) : CI Ncs l y_L_size cw_L_size (RM 3) δ (Bo ad o) (dl δ ad M ++ [(o, oA δ f)]) [.ref (ad 0), .int x0, .ref o] 1 6 (WO δ o f (fun z => if z = 1 then 1 else 0) cvI P) := by
  refine CI.of (hh := [(0, 9, 12, 13)]) (lv := [(0, .ref (ad 0)), (1, .int x0), (2, .ref o)]) (Or.inr rfl) (by decide) htr rfl (Nat.le_of_ble_eq_true rfl) (fun κ hl X hnm hE => ?_)
  subst hl
  refine g_aload_n X 2 d_L_size_0 rfl rfl ?_
  refine g_iconst X (v := nI 0) d_L_size_1 (by decide) ?_
  refine g_aload_n X 0 d_L_size_2 rfl rfl ?_
  refine g_iload_n X 1 d_L_size_3 rfl rfl ?_
  refine g_callC hE X (inv_V X (hh2 := []) (av := [.int x0]) (rest := [.int (nI 0), .ref o]) (Or.inl rfl) v_L_29.2.2.2.1 v_L_29.1 v_L_29.2.1.1 v_L_29.2.1.2 v_L_29.2.2.2.2.1 v_L_29.2.2.2.2.2 d_L_size_4 rfl dl_0 rfl) hC (fun q hq => Or.inl (Or.inl hq)) (Spl.l (b := [(o, oA δ f)]) (fun k q hk => ?_)) (hh2 := []) (Or.inl rfl) v_L_29.2.2.2.1 v_L_29.2.2.1 d_L_size_4 ⟨(Nat.le_of_ble_eq_true rfl), (Nat.le_of_ble_eq_true rfl), (Nat.le_of_ble_eq_true rfl), (Nat.le_of_ble_eq_true rfl)⟩ (fun z => if z = 1 then 12 else 0) (fun z w hp => ?_) (fun u w hp => ?_) (fun z w x hp => ?_)
  · have hz : k < 1 := (List.getElem?_eq_some_iff.mp hk).1
    have h0 : k = 0 := by omega
    subst h0
    cases hk
    exact ho
  · rcases hk z w hp with rfl
    · exact ⟨[], (0, 9, 12, 13), [], rfl, (fun y hy => by cases hy), by decide, by decide, rfl, by decide, kk_L_13, kca_IllegalArgumentException⟩
  · obtain ⟨xv, rfl⟩ := hv u w hp
    refine g_i2l X d_L_size_7 ?_
    refine g_out X (oA_D ho (hPD _ _ hp)) d_L_size_8 ?_
    refine g_goto X 15 d_L_size_9 (by decide) ?_
    refine g_iconst X (v := nI 0) d_L_size_15 (by decide) ?_
    refine g_widen (k := 1) (n := 6) (by decide) (by decide) ?_
    exact i_iret X (oA_D ho (hPD _ _ hp)) d_L_size_16 (Or.inl ⟨_, w, hp, rfl, rfl⟩)
  · rcases hk z w hp with rfl
    · refine g_astore_n X 3 d_L_size_12 rfl (by decide) ?_
      refine g_iconst X (v := nI 1) d_L_size_13 (by decide) ?_
      exact i_iret X (oA_D ho (hPD _ _ hp)) d_L_size_14 (Or.inr ⟨_, w, hp, rfl, rfl⟩)
set_option maxHeartbeats 4000000 in
set_option maxRecDepth 100000 in
theorem c_L_multiply {l : Launch} (htr : l.stackTraces = false) {δ : EX} {ad : Nat → Nat} {M : DS} {o : Nat} {f : Nat → Int64} (ho : ¬ Ar ad o) (hinj : Inj ad) {x0 : Int32} {x1 : Int32} {x2 : Int32} {x3 : Int32} {x4 : Int32} {x5 : Int32} {P : OC → va_W → Prop} (hC : CT l y_D_multiply cw_D_multiply (RM 5) δ (Ar ad) (dl δ ad M) [.ref (ad 0), .int x0, .int x1, .int x2, .int x3, .int x4, .int x5] P) (hPD : ∀ r w, P r w → va_D (Ar ad) w) (hk : ∀ z w, P (.inl z) w → z = 1 ∨ z = 2 ∨ z = 4) (hv : ∀ u w, P (.inr u) w → ∃ x, u = some (.int x)) : CI Ncs l y_L_multiply cw_L_multiply (RM 6) δ (Bo ad o) (dl δ ad M ++ [(o, oA δ f)]) [.ref (ad 0), .int x0, .int x1, .int x2, .int x3, .int x4, .int x5, .ref o] 1 6 (WO δ o f (fun z => if z = 1 then 1 else if z = 2 then 2 else if z = 4 then 3 else 0) cvI P) := by
  refine CI.of (hh := [(0, 18, 21, 13), (0, 18, 25, 37), (0, 18, 29, 39)]) (lv := [(0, .ref (ad 0)), (1, .int x0), (2, .int x1), (3, .int x2), (4, .int x3), (5, .int x4), (6, .int x5), (7, .ref o)]) (Or.inr rfl) (by decide) htr rfl (Nat.le_of_ble_eq_true rfl) (fun κ hl X hnm hE => ?_)
  subst hl
  refine g_aload X d_L_multiply_0 rfl ?_
  refine g_iconst X (v := nI 0) d_L_multiply_2 (by decide) ?_
  refine g_aload_n X 0 d_L_multiply_3 rfl rfl ?_
  refine g_iload_n X 1 d_L_multiply_4 rfl rfl ?_
  refine g_iload_n X 2 d_L_multiply_5 rfl rfl ?_
  refine g_iload_n X 3 d_L_multiply_6 rfl rfl ?_
  refine g_iload X d_L_multiply_7 rfl ?_
  refine g_iload X d_L_multiply_9 rfl ?_
  refine g_iload X d_L_multiply_11 rfl ?_
  refine g_callC hE X (inv_V X (hh2 := []) (av := [.int x0, .int x1, .int x2, .int x3, .int x4, .int x5]) (rest := [.int (nI 0), .ref o]) (Or.inl rfl) v_L_33.2.2.2.1 v_L_33.1 v_L_33.2.1.1 v_L_33.2.1.2 v_L_33.2.2.2.2.1 v_L_33.2.2.2.2.2 d_L_multiply_13 rfl dl_0 rfl) hC (fun q hq => Or.inl (Or.inl hq)) (Spl.l (b := [(o, oA δ f)]) (fun k q hk => ?_)) (hh2 := []) (Or.inl rfl) v_L_33.2.2.2.1 v_L_33.2.2.1 d_L_multiply_13 ⟨(Nat.le_of_ble_eq_true rfl), (Nat.le_of_ble_eq_true rfl), (Nat.le_of_ble_eq_true rfl), (Nat.le_of_ble_eq_true rfl)⟩ (fun z => if z = 1 then 21 else if z = 2 then 25 else if z = 4 then 29 else 0) (fun z w hp => ?_) (fun u w hp => ?_) (fun z w x hp => ?_)
  · have hz : k < 1 := (List.getElem?_eq_some_iff.mp hk).1
    have h0 : k = 0 := by omega
    subst h0
    cases hk
    exact ho
  · rcases hk z w hp with rfl | rfl | rfl
    · exact ⟨[], (0, 18, 21, 13), [(0, 18, 25, 37), (0, 18, 29, 39)], rfl, (fun y hy => by cases hy), by decide, by decide, rfl, by decide, kk_L_13, kca_IllegalArgumentException⟩
    · exact ⟨[(0, 18, 21, 13)], (0, 18, 25, 37), [(0, 18, 29, 39)], rfl, (fun y hy => by
        simp only [List.mem_cons, List.not_mem_nil, or_false] at hy
        rcases hy with rfl
        · exact ⟨by decide, 1, kk_L_13, by decide⟩), by decide, by decide, rfl, by decide, kk_L_37, kca_IllegalStateException⟩
    · exact ⟨[(0, 18, 21, 13), (0, 18, 25, 37)], (0, 18, 29, 39), [], rfl, (fun y hy => by
        simp only [List.mem_cons, List.not_mem_nil, or_false] at hy
        rcases hy with rfl | rfl
        · exact ⟨by decide, 1, kk_L_13, by decide⟩
        · exact ⟨by decide, 2, kk_L_37, by decide⟩), by decide, by decide, rfl, by decide, kk_L_39, kca_UnsupportedOperationException⟩
  · obtain ⟨xv, rfl⟩ := hv u w hp
    refine g_i2l X d_L_multiply_16 ?_
    refine g_out X (oA_D ho (hPD _ _ hp)) d_L_multiply_17 ?_
    refine g_goto X 33 d_L_multiply_18 (by decide) ?_
    refine g_iconst X (v := nI 0) d_L_multiply_33 (by decide) ?_
    refine g_widen (k := 1) (n := 6) (by decide) (by decide) ?_
    exact i_iret X (oA_D ho (hPD _ _ hp)) d_L_multiply_34 (Or.inl ⟨_, w, hp, rfl, rfl⟩)
  · rcases hk z w hp with rfl | rfl | rfl
    · refine g_astore X d_L_multiply_21 (by decide) ?_
      refine g_iconst X (v := nI 1) d_L_multiply_23 (by decide) ?_
      exact i_iret X (oA_D ho (hPD _ _ hp)) d_L_multiply_24 (Or.inr ⟨_, w, hp, rfl, rfl⟩)
    · refine g_astore X d_L_multiply_25 (by decide) ?_
      refine g_iconst X (v := nI 2) d_L_multiply_27 (by decide) ?_
      exact i_iret X (oA_D ho (hPD _ _ hp)) d_L_multiply_28 (Or.inr ⟨_, w, hp, rfl, rfl⟩)
    · refine g_astore X d_L_multiply_29 (by decide) ?_
      refine g_iconst X (v := nI 3) d_L_multiply_31 (by decide) ?_
      exact i_iret X (oA_D ho (hPD _ _ hp)) d_L_multiply_32 (Or.inr ⟨_, w, hp, rfl, rfl⟩)
set_option maxHeartbeats 4000000 in
set_option maxRecDepth 100000 in
theorem c_L_add {l : Launch} (htr : l.stackTraces = false) {δ : EX} {ad : Nat → Nat} {M : DS} {o : Nat} {f : Nat → Int64} (ho : ¬ Ar ad o) (hinj : Inj ad) {x0 : Int32} {x1 : Int32} {x2 : Int32} {x3 : Int32} {P : OC → va_W → Prop} (hC : CT l y_D_add cw_D_add (RM 5) δ (Ar ad) (dl δ ad M) [.ref (ad 0), .int x0, .int x1, .int x2, .int x3] P) (hPD : ∀ r w, P r w → va_D (Ar ad) w) (hk : ∀ z w, P (.inl z) w → z = 1 ∨ z = 2 ∨ z = 4) (hv : ∀ u w, P (.inr u) w → ∃ x, u = some (.int x)) : CI Ncs l y_L_add cw_L_add (RM 6) δ (Bo ad o) (dl δ ad M ++ [(o, oA δ f)]) [.ref (ad 0), .int x0, .int x1, .int x2, .int x3, .ref o] 1 6 (WO δ o f (fun z => if z = 1 then 1 else if z = 2 then 2 else if z = 4 then 3 else 0) cvI P) := by
  refine CI.of (hh := [(0, 14, 17, 13), (0, 14, 21, 37), (0, 14, 25, 39)]) (lv := [(0, .ref (ad 0)), (1, .int x0), (2, .int x1), (3, .int x2), (4, .int x3), (5, .ref o)]) (Or.inr rfl) (by decide) htr rfl (Nat.le_of_ble_eq_true rfl) (fun κ hl X hnm hE => ?_)
  subst hl
  refine g_aload X d_L_add_0 rfl ?_
  refine g_iconst X (v := nI 0) d_L_add_2 (by decide) ?_
  refine g_aload_n X 0 d_L_add_3 rfl rfl ?_
  refine g_iload_n X 1 d_L_add_4 rfl rfl ?_
  refine g_iload_n X 2 d_L_add_5 rfl rfl ?_
  refine g_iload_n X 3 d_L_add_6 rfl rfl ?_
  refine g_iload X d_L_add_7 rfl ?_
  refine g_callC hE X (inv_V X (hh2 := []) (av := [.int x0, .int x1, .int x2, .int x3]) (rest := [.int (nI 0), .ref o]) (Or.inl rfl) v_L_41.2.2.2.1 v_L_41.1 v_L_41.2.1.1 v_L_41.2.1.2 v_L_41.2.2.2.2.1 v_L_41.2.2.2.2.2 d_L_add_9 rfl dl_0 rfl) hC (fun q hq => Or.inl (Or.inl hq)) (Spl.l (b := [(o, oA δ f)]) (fun k q hk => ?_)) (hh2 := []) (Or.inl rfl) v_L_41.2.2.2.1 v_L_41.2.2.1 d_L_add_9 ⟨(Nat.le_of_ble_eq_true rfl), (Nat.le_of_ble_eq_true rfl), (Nat.le_of_ble_eq_true rfl), (Nat.le_of_ble_eq_true rfl)⟩ (fun z => if z = 1 then 17 else if z = 2 then 21 else if z = 4 then 25 else 0) (fun z w hp => ?_) (fun u w hp => ?_) (fun z w x hp => ?_)
  · have hz : k < 1 := (List.getElem?_eq_some_iff.mp hk).1
    have h0 : k = 0 := by omega
    subst h0
    cases hk
    exact ho
  · rcases hk z w hp with rfl | rfl | rfl
    · exact ⟨[], (0, 14, 17, 13), [(0, 14, 21, 37), (0, 14, 25, 39)], rfl, (fun y hy => by cases hy), by decide, by decide, rfl, by decide, kk_L_13, kca_IllegalArgumentException⟩
    · exact ⟨[(0, 14, 17, 13)], (0, 14, 21, 37), [(0, 14, 25, 39)], rfl, (fun y hy => by
        simp only [List.mem_cons, List.not_mem_nil, or_false] at hy
        rcases hy with rfl
        · exact ⟨by decide, 1, kk_L_13, by decide⟩), by decide, by decide, rfl, by decide, kk_L_37, kca_IllegalStateException⟩
    · exact ⟨[(0, 14, 17, 13), (0, 14, 21, 37)], (0, 14, 25, 39), [], rfl, (fun y hy => by
        simp only [List.mem_cons, List.not_mem_nil, or_false] at hy
        rcases hy with rfl | rfl
        · exact ⟨by decide, 1, kk_L_13, by decide⟩
        · exact ⟨by decide, 2, kk_L_37, by decide⟩), by decide, by decide, rfl, by decide, kk_L_39, kca_UnsupportedOperationException⟩
  · obtain ⟨xv, rfl⟩ := hv u w hp
    refine g_i2l X d_L_add_12 ?_
    refine g_out X (oA_D ho (hPD _ _ hp)) d_L_add_13 ?_
    refine g_goto X 29 d_L_add_14 (by decide) ?_
    refine g_iconst X (v := nI 0) d_L_add_29 (by decide) ?_
    refine g_widen (k := 1) (n := 6) (by decide) (by decide) ?_
    exact i_iret X (oA_D ho (hPD _ _ hp)) d_L_add_30 (Or.inl ⟨_, w, hp, rfl, rfl⟩)
  · rcases hk z w hp with rfl | rfl | rfl
    · refine g_astore X d_L_add_17 (by decide) ?_
      refine g_iconst X (v := nI 1) d_L_add_19 (by decide) ?_
      exact i_iret X (oA_D ho (hPD _ _ hp)) d_L_add_20 (Or.inr ⟨_, w, hp, rfl, rfl⟩)
    · refine g_astore X d_L_add_21 (by decide) ?_
      refine g_iconst X (v := nI 2) d_L_add_23 (by decide) ?_
      exact i_iret X (oA_D ho (hPD _ _ hp)) d_L_add_24 (Or.inr ⟨_, w, hp, rfl, rfl⟩)
    · refine g_astore X d_L_add_25 (by decide) ?_
      refine g_iconst X (v := nI 3) d_L_add_27 (by decide) ?_
      exact i_iret X (oA_D ho (hPD _ _ hp)) d_L_add_28 (Or.inr ⟨_, w, hp, rfl, rfl⟩)
set_option maxHeartbeats 4000000 in
set_option maxRecDepth 100000 in
theorem c_L_each {l : Launch} (htr : l.stackTraces = false) {δ : EX} {ad : Nat → Nat} {M : DS} {o : Nat} {f : Nat → Int64} (ho : ¬ Ar ad o) (hinj : Inj ad) {x0 : Int32} {x1 : Int32} {x2 : Int32} {x3 : Int32} {P : OC → va_W → Prop} (hC : CT l y_D_each cw_D_each (RM 5) δ (Ar ad) (dl δ ad M) [.ref (ad 0), .int x0, .int x1, .int x2, .int x3] P) (hPD : ∀ r w, P r w → va_D (Ar ad) w) (hk : ∀ z w, P (.inl z) w → z = 1 ∨ z = 2 ∨ z = 4) (hv : ∀ u w, P (.inr u) w → ∃ x, u = some (.int x)) : CI Ncs l y_L_each cw_L_each (RM 6) δ (Bo ad o) (dl δ ad M ++ [(o, oA δ f)]) [.ref (ad 0), .int x0, .int x1, .int x2, .int x3, .ref o] 1 6 (WO δ o f (fun z => if z = 1 then 1 else if z = 2 then 2 else if z = 4 then 3 else 0) cvI P) := by
  refine CI.of (hh := [(0, 14, 17, 13), (0, 14, 21, 37), (0, 14, 25, 39)]) (lv := [(0, .ref (ad 0)), (1, .int x0), (2, .int x1), (3, .int x2), (4, .int x3), (5, .ref o)]) (Or.inr rfl) (by decide) htr rfl (Nat.le_of_ble_eq_true rfl) (fun κ hl X hnm hE => ?_)
  subst hl
  refine g_aload X d_L_each_0 rfl ?_
  refine g_iconst X (v := nI 0) d_L_each_2 (by decide) ?_
  refine g_aload_n X 0 d_L_each_3 rfl rfl ?_
  refine g_iload_n X 1 d_L_each_4 rfl rfl ?_
  refine g_iload_n X 2 d_L_each_5 rfl rfl ?_
  refine g_iload_n X 3 d_L_each_6 rfl rfl ?_
  refine g_iload X d_L_each_7 rfl ?_
  refine g_callC hE X (inv_V X (hh2 := []) (av := [.int x0, .int x1, .int x2, .int x3]) (rest := [.int (nI 0), .ref o]) (Or.inl rfl) v_L_45.2.2.2.1 v_L_45.1 v_L_45.2.1.1 v_L_45.2.1.2 v_L_45.2.2.2.2.1 v_L_45.2.2.2.2.2 d_L_each_9 rfl dl_0 rfl) hC (fun q hq => Or.inl (Or.inl hq)) (Spl.l (b := [(o, oA δ f)]) (fun k q hk => ?_)) (hh2 := []) (Or.inl rfl) v_L_45.2.2.2.1 v_L_45.2.2.1 d_L_each_9 ⟨(Nat.le_of_ble_eq_true rfl), (Nat.le_of_ble_eq_true rfl), (Nat.le_of_ble_eq_true rfl), (Nat.le_of_ble_eq_true rfl)⟩ (fun z => if z = 1 then 17 else if z = 2 then 21 else if z = 4 then 25 else 0) (fun z w hp => ?_) (fun u w hp => ?_) (fun z w x hp => ?_)
  · have hz : k < 1 := (List.getElem?_eq_some_iff.mp hk).1
    have h0 : k = 0 := by omega
    subst h0
    cases hk
    exact ho
  · rcases hk z w hp with rfl | rfl | rfl
    · exact ⟨[], (0, 14, 17, 13), [(0, 14, 21, 37), (0, 14, 25, 39)], rfl, (fun y hy => by cases hy), by decide, by decide, rfl, by decide, kk_L_13, kca_IllegalArgumentException⟩
    · exact ⟨[(0, 14, 17, 13)], (0, 14, 21, 37), [(0, 14, 25, 39)], rfl, (fun y hy => by
        simp only [List.mem_cons, List.not_mem_nil, or_false] at hy
        rcases hy with rfl
        · exact ⟨by decide, 1, kk_L_13, by decide⟩), by decide, by decide, rfl, by decide, kk_L_37, kca_IllegalStateException⟩
    · exact ⟨[(0, 14, 17, 13), (0, 14, 21, 37)], (0, 14, 25, 39), [], rfl, (fun y hy => by
        simp only [List.mem_cons, List.not_mem_nil, or_false] at hy
        rcases hy with rfl | rfl
        · exact ⟨by decide, 1, kk_L_13, by decide⟩
        · exact ⟨by decide, 2, kk_L_37, by decide⟩), by decide, by decide, rfl, by decide, kk_L_39, kca_UnsupportedOperationException⟩
  · obtain ⟨xv, rfl⟩ := hv u w hp
    refine g_i2l X d_L_each_12 ?_
    refine g_out X (oA_D ho (hPD _ _ hp)) d_L_each_13 ?_
    refine g_goto X 29 d_L_each_14 (by decide) ?_
    refine g_iconst X (v := nI 0) d_L_each_29 (by decide) ?_
    refine g_widen (k := 1) (n := 6) (by decide) (by decide) ?_
    exact i_iret X (oA_D ho (hPD _ _ hp)) d_L_each_30 (Or.inl ⟨_, w, hp, rfl, rfl⟩)
  · rcases hk z w hp with rfl | rfl | rfl
    · refine g_astore X d_L_each_17 (by decide) ?_
      refine g_iconst X (v := nI 1) d_L_each_19 (by decide) ?_
      exact i_iret X (oA_D ho (hPD _ _ hp)) d_L_each_20 (Or.inr ⟨_, w, hp, rfl, rfl⟩)
    · refine g_astore X d_L_each_21 (by decide) ?_
      refine g_iconst X (v := nI 2) d_L_each_23 (by decide) ?_
      exact i_iret X (oA_D ho (hPD _ _ hp)) d_L_each_24 (Or.inr ⟨_, w, hp, rfl, rfl⟩)
    · refine g_astore X d_L_each_25 (by decide) ?_
      refine g_iconst X (v := nI 3) d_L_each_27 (by decide) ?_
      exact i_iret X (oA_D ho (hPD _ _ hp)) d_L_each_28 (Or.inr ⟨_, w, hp, rfl, rfl⟩)
set_option maxHeartbeats 4000000 in
set_option maxRecDepth 100000 in
theorem c_L_transpose {l : Launch} (htr : l.stackTraces = false) {δ : EX} {ad : Nat → Nat} {M : DS} {o : Nat} {f : Nat → Int64} (ho : ¬ Ar ad o) (hinj : Inj ad) {x0 : Int32} {x1 : Int32} {P : OC → va_W → Prop} (hC : CT l y_D_transpose cw_D_transpose (RM 2) δ (Ar ad) (dl δ ad M) [.ref (ad 0), .int x0, .int x1] P) (hPD : ∀ r w, P r w → va_D (Ar ad) w) (hk : ∀ z w, P (.inl z) w → z = 1) (hv : ∀ u w, P (.inr u) w → ∃ x, u = some (.int x)) : CI Ncs l y_L_transpose cw_L_transpose (RM 3) δ (Bo ad o) (dl δ ad M ++ [(o, oA δ f)]) [.ref (ad 0), .int x0, .int x1, .ref o] 1 6 (WO δ o f (fun z => if z = 1 then 1 else 0) cvI P) := by
  refine CI.of (hh := [(0, 10, 13, 13)]) (lv := [(0, .ref (ad 0)), (1, .int x0), (2, .int x1), (3, .ref o)]) (Or.inr rfl) (by decide) htr rfl (Nat.le_of_ble_eq_true rfl) (fun κ hl X hnm hE => ?_)
  subst hl
  refine g_aload_n X 3 d_L_transpose_0 rfl rfl ?_
  refine g_iconst X (v := nI 0) d_L_transpose_1 (by decide) ?_
  refine g_aload_n X 0 d_L_transpose_2 rfl rfl ?_
  refine g_iload_n X 1 d_L_transpose_3 rfl rfl ?_
  refine g_iload_n X 2 d_L_transpose_4 rfl rfl ?_
  refine g_callC hE X (inv_V X (hh2 := []) (av := [.int x0, .int x1]) (rest := [.int (nI 0), .ref o]) (Or.inl rfl) v_L_48.2.2.2.1 v_L_48.1 v_L_48.2.1.1 v_L_48.2.1.2 v_L_48.2.2.2.2.1 v_L_48.2.2.2.2.2 d_L_transpose_5 rfl dl_0 rfl) hC (fun q hq => Or.inl (Or.inl hq)) (Spl.l (b := [(o, oA δ f)]) (fun k q hk => ?_)) (hh2 := []) (Or.inl rfl) v_L_48.2.2.2.1 v_L_48.2.2.1 d_L_transpose_5 ⟨(Nat.le_of_ble_eq_true rfl), (Nat.le_of_ble_eq_true rfl), (Nat.le_of_ble_eq_true rfl), (Nat.le_of_ble_eq_true rfl)⟩ (fun z => if z = 1 then 13 else 0) (fun z w hp => ?_) (fun u w hp => ?_) (fun z w x hp => ?_)
  · have hz : k < 1 := (List.getElem?_eq_some_iff.mp hk).1
    have h0 : k = 0 := by omega
    subst h0
    cases hk
    exact ho
  · rcases hk z w hp with rfl
    · exact ⟨[], (0, 10, 13, 13), [], rfl, (fun y hy => by cases hy), by decide, by decide, rfl, by decide, kk_L_13, kca_IllegalArgumentException⟩
  · obtain ⟨xv, rfl⟩ := hv u w hp
    refine g_i2l X d_L_transpose_8 ?_
    refine g_out X (oA_D ho (hPD _ _ hp)) d_L_transpose_9 ?_
    refine g_goto X 17 d_L_transpose_10 (by decide) ?_
    refine g_iconst X (v := nI 0) d_L_transpose_17 (by decide) ?_
    refine g_widen (k := 1) (n := 6) (by decide) (by decide) ?_
    exact i_iret X (oA_D ho (hPD _ _ hp)) d_L_transpose_18 (Or.inl ⟨_, w, hp, rfl, rfl⟩)
  · rcases hk z w hp with rfl
    · refine g_astore X d_L_transpose_13 (by decide) ?_
      refine g_iconst X (v := nI 1) d_L_transpose_15 (by decide) ?_
      exact i_iret X (oA_D ho (hPD _ _ hp)) d_L_transpose_16 (Or.inr ⟨_, w, hp, rfl, rfl⟩)
set_option maxHeartbeats 4000000 in
set_option maxRecDepth 100000 in
theorem c_L_select {l : Launch} (htr : l.stackTraces = false) {δ : EX} {ad : Nat → Nat} {M : DS} {o : Nat} {f : Nat → Int64} (ho : ¬ Ar ad o) (hinj : Inj ad) {x0 : Int32} {x1 : Int32} {x2 : Int32} {x3 : Int64} {P : OC → va_W → Prop} (hC : CT l y_D_select cw_D_select (RM 2) δ (Ar ad) (dl δ ad M) [.ref (ad 0), .int x0, .int x1, .int x2, .long x3] P) (hPD : ∀ r w, P r w → va_D (Ar ad) w) (hk : ∀ z w, P (.inl z) w → z = 1) (hv : ∀ u w, P (.inr u) w → ∃ x, u = some (.int x)) : CI Ncs l y_L_select cw_L_select (RM 3) δ (Bo ad o) (dl δ ad M ++ [(o, oA δ f)]) [.ref (ad 0), .int x0, .int x1, .int x2, .long x3, .ref o] 1 6 (WO δ o f (fun z => if z = 1 then 1 else 0) cvI P) := by
  refine CI.of (hh := [(0, 14, 17, 13)]) (lv := [(0, .ref (ad 0)), (1, .int x0), (2, .int x1), (3, .int x2), (4, .long x3), (6, .ref o)]) (Or.inr rfl) (by decide) htr rfl (Nat.le_of_ble_eq_true rfl) (fun κ hl X hnm hE => ?_)
  subst hl
  refine g_aload X d_L_select_0 rfl ?_
  refine g_iconst X (v := nI 0) d_L_select_2 (by decide) ?_
  refine g_aload_n X 0 d_L_select_3 rfl rfl ?_
  refine g_iload_n X 1 d_L_select_4 rfl rfl ?_
  refine g_iload_n X 2 d_L_select_5 rfl rfl ?_
  refine g_iload_n X 3 d_L_select_6 rfl rfl ?_
  refine g_lload X d_L_select_7 rfl ?_
  refine g_callC hE X (inv_V X (hh2 := []) (av := [.int x0, .int x1, .int x2, .long x3]) (rest := [.int (nI 0), .ref o]) (Or.inl rfl) v_L_52.2.2.2.1 v_L_52.1 v_L_52.2.1.1 v_L_52.2.1.2 v_L_52.2.2.2.2.1 v_L_52.2.2.2.2.2 d_L_select_9 rfl dl_0 rfl) hC (fun q hq => Or.inl (Or.inl hq)) (Spl.l (b := [(o, oA δ f)]) (fun k q hk => ?_)) (hh2 := []) (Or.inl rfl) v_L_52.2.2.2.1 v_L_52.2.2.1 d_L_select_9 ⟨(Nat.le_of_ble_eq_true rfl), (Nat.le_of_ble_eq_true rfl), (Nat.le_of_ble_eq_true rfl), (Nat.le_of_ble_eq_true rfl)⟩ (fun z => if z = 1 then 17 else 0) (fun z w hp => ?_) (fun u w hp => ?_) (fun z w x hp => ?_)
  · have hz : k < 1 := (List.getElem?_eq_some_iff.mp hk).1
    have h0 : k = 0 := by omega
    subst h0
    cases hk
    exact ho
  · rcases hk z w hp with rfl
    · exact ⟨[], (0, 14, 17, 13), [], rfl, (fun y hy => by cases hy), by decide, by decide, rfl, by decide, kk_L_13, kca_IllegalArgumentException⟩
  · obtain ⟨xv, rfl⟩ := hv u w hp
    refine g_i2l X d_L_select_12 ?_
    refine g_out X (oA_D ho (hPD _ _ hp)) d_L_select_13 ?_
    refine g_goto X 21 d_L_select_14 (by decide) ?_
    refine g_iconst X (v := nI 0) d_L_select_21 (by decide) ?_
    refine g_widen (k := 1) (n := 6) (by decide) (by decide) ?_
    exact i_iret X (oA_D ho (hPD _ _ hp)) d_L_select_22 (Or.inl ⟨_, w, hp, rfl, rfl⟩)
  · rcases hk z w hp with rfl
    · refine g_astore X d_L_select_17 (by decide) ?_
      refine g_iconst X (v := nI 1) d_L_select_19 (by decide) ?_
      exact i_iret X (oA_D ho (hPD _ _ hp)) d_L_select_20 (Or.inr ⟨_, w, hp, rfl, rfl⟩)
set_option maxHeartbeats 4000000 in
set_option maxRecDepth 100000 in
theorem c_L_reduce {l : Launch} (htr : l.stackTraces = false) {δ : EX} {ad : Nat → Nat} {M : DS} {o : Nat} {f : Nat → Int64} (ho : ¬ Ar ad o) (hinj : Inj ad) {x0 : Int32} {x1 : Int32} {P : OC → va_W → Prop} (hC : CT l y_D_reduce cw_D_reduce (RM 4) δ (Ar ad) (dl δ ad M) [.ref (ad 0), .int x0, .int x1] P) (hPD : ∀ r w, P r w → va_D (Ar ad) w) (hk : ∀ z w, P (.inl z) w → z = 1 ∨ z = 3 ∨ z = 4) (hv : ∀ u w, P (.inr u) w → ∃ x, u = some (.long x)) : CI Ncs l y_L_reduce cw_L_reduce (RM 5) δ (Bo ad o) (dl δ ad M ++ [(o, oA δ f)]) [.ref (ad 0), .int x0, .int x1, .ref o] 1 6 (WO δ o f (fun z => if z = 1 then 1 else if z = 3 then 2 else if z = 4 then 3 else 0) cvL P) := by
  refine CI.of (hh := [(0, 9, 12, 13), (0, 9, 16, 27), (0, 9, 20, 39)]) (lv := [(0, .ref (ad 0)), (1, .int x0), (2, .int x1), (3, .ref o)]) (Or.inr rfl) (by decide) htr rfl (Nat.le_of_ble_eq_true rfl) (fun κ hl X hnm hE => ?_)
  subst hl
  refine g_aload_n X 3 d_L_reduce_0 rfl rfl ?_
  refine g_iconst X (v := nI 0) d_L_reduce_1 (by decide) ?_
  refine g_aload_n X 0 d_L_reduce_2 rfl rfl ?_
  refine g_iload_n X 1 d_L_reduce_3 rfl rfl ?_
  refine g_iload_n X 2 d_L_reduce_4 rfl rfl ?_
  refine g_callC hE X (inv_V X (hh2 := []) (av := [.int x0, .int x1]) (rest := [.int (nI 0), .ref o]) (Or.inl rfl) v_L_56.2.2.2.1 v_L_56.1 v_L_56.2.1.1 v_L_56.2.1.2 v_L_56.2.2.2.2.1 v_L_56.2.2.2.2.2 d_L_reduce_5 rfl dl_0 rfl) hC (fun q hq => Or.inl (Or.inl hq)) (Spl.l (b := [(o, oA δ f)]) (fun k q hk => ?_)) (hh2 := []) (Or.inl rfl) v_L_56.2.2.2.1 v_L_56.2.2.1 d_L_reduce_5 ⟨(Nat.le_of_ble_eq_true rfl), (Nat.le_of_ble_eq_true rfl), (Nat.le_of_ble_eq_true rfl), (Nat.le_of_ble_eq_true rfl)⟩ (fun z => if z = 1 then 12 else if z = 3 then 16 else if z = 4 then 20 else 0) (fun z w hp => ?_) (fun u w hp => ?_) (fun z w x hp => ?_)
  · have hz : k < 1 := (List.getElem?_eq_some_iff.mp hk).1
    have h0 : k = 0 := by omega
    subst h0
    cases hk
    exact ho
  · rcases hk z w hp with rfl | rfl | rfl
    · exact ⟨[], (0, 9, 12, 13), [(0, 9, 16, 27), (0, 9, 20, 39)], rfl, (fun y hy => by cases hy), by decide, by decide, rfl, by decide, kk_L_13, kca_IllegalArgumentException⟩
    · exact ⟨[(0, 9, 12, 13)], (0, 9, 16, 27), [(0, 9, 20, 39)], rfl, (fun y hy => by
        simp only [List.mem_cons, List.not_mem_nil, or_false] at hy
        rcases hy with rfl
        · exact ⟨by decide, 1, kk_L_13, by decide⟩), by decide, by decide, rfl, by decide, kk_L_27, kca_NoSuchElementException⟩
    · exact ⟨[(0, 9, 12, 13), (0, 9, 16, 27)], (0, 9, 20, 39), [], rfl, (fun y hy => by
        simp only [List.mem_cons, List.not_mem_nil, or_false] at hy
        rcases hy with rfl | rfl
        · exact ⟨by decide, 1, kk_L_13, by decide⟩
        · exact ⟨by decide, 3, kk_L_27, by decide⟩), by decide, by decide, rfl, by decide, kk_L_39, kca_UnsupportedOperationException⟩
  · obtain ⟨xv, rfl⟩ := hv u w hp
    refine g_out X (oA_D ho (hPD _ _ hp)) d_L_reduce_8 ?_
    refine g_goto X 24 d_L_reduce_9 (by decide) ?_
    refine g_iconst X (v := nI 0) d_L_reduce_24 (by decide) ?_
    refine g_widen (k := 1) (n := 6) (by decide) (by decide) ?_
    exact i_iret X (oA_D ho (hPD _ _ hp)) d_L_reduce_25 (Or.inl ⟨_, w, hp, rfl, rfl⟩)
  · rcases hk z w hp with rfl | rfl | rfl
    · refine g_astore X d_L_reduce_12 (by decide) ?_
      refine g_iconst X (v := nI 1) d_L_reduce_14 (by decide) ?_
      exact i_iret X (oA_D ho (hPD _ _ hp)) d_L_reduce_15 (Or.inr ⟨_, w, hp, rfl, rfl⟩)
    · refine g_astore X d_L_reduce_16 (by decide) ?_
      refine g_iconst X (v := nI 2) d_L_reduce_18 (by decide) ?_
      exact i_iret X (oA_D ho (hPD _ _ hp)) d_L_reduce_19 (Or.inr ⟨_, w, hp, rfl, rfl⟩)
    · refine g_astore X d_L_reduce_20 (by decide) ?_
      refine g_iconst X (v := nI 3) d_L_reduce_22 (by decide) ?_
      exact i_iret X (oA_D ho (hPD _ _ hp)) d_L_reduce_23 (Or.inr ⟨_, w, hp, rfl, rfl⟩)
set_option maxHeartbeats 4000000 in
set_option maxRecDepth 100000 in
theorem c_L_levels {l : Launch} (htr : l.stackTraces = false) {δ : EX} {ad : Nat → Nat} {M : DS} {o : Nat} {f : Nat → Int64} (ho : ¬ Ar ad o) (hinj : Inj ad) {x0 : Int32} {x1 : Int32} {x2 : Int32} {P : OC → va_W → Prop} (hC : CT l y_D_levels cw_D_levels (RM 3) δ (Ar ad) (dl δ ad M) [.ref (ad 0), .int x0, .int x1, .int x2] P) (hPD : ∀ r w, P r w → va_D (Ar ad) w) (hk : ∀ z w, P (.inl z) w → z = 1 ∨ z = 2 ∨ z = 3) (hv : ∀ u w, P (.inr u) w → ∃ x, u = some (.int x)) : CI Ncs l y_L_levels cw_L_levels (RM 4) δ (Bo ad o) (dl δ ad M ++ [(o, oA δ f)]) [.ref (ad 0), .int x0, .int x1, .int x2, .ref o] 1 6 (WO δ o f (fun z => if z = 1 then 1 else if z = 2 then 2 else if z = 3 then 3 else 0) cvI P) := by
  refine CI.of (hh := [(0, 12, 15, 13), (0, 12, 19, 37), (0, 12, 23, 27)]) (lv := [(0, .ref (ad 0)), (1, .int x0), (2, .int x1), (3, .int x2), (4, .ref o)]) (Or.inr rfl) (by decide) htr rfl (Nat.le_of_ble_eq_true rfl) (fun κ hl X hnm hE => ?_)
  subst hl
  refine g_aload X d_L_levels_0 rfl ?_
  refine g_iconst X (v := nI 0) d_L_levels_2 (by decide) ?_
  refine g_aload_n X 0 d_L_levels_3 rfl rfl ?_
  refine g_iload_n X 1 d_L_levels_4 rfl rfl ?_
  refine g_iload_n X 2 d_L_levels_5 rfl rfl ?_
  refine g_iload_n X 3 d_L_levels_6 rfl rfl ?_
  refine g_callC hE X (inv_V X (hh2 := []) (av := [.int x0, .int x1, .int x2]) (rest := [.int (nI 0), .ref o]) (Or.inl rfl) v_L_60.2.2.2.1 v_L_60.1 v_L_60.2.1.1 v_L_60.2.1.2 v_L_60.2.2.2.2.1 v_L_60.2.2.2.2.2 d_L_levels_7 rfl dl_0 rfl) hC (fun q hq => Or.inl (Or.inl hq)) (Spl.l (b := [(o, oA δ f)]) (fun k q hk => ?_)) (hh2 := []) (Or.inl rfl) v_L_60.2.2.2.1 v_L_60.2.2.1 d_L_levels_7 ⟨(Nat.le_of_ble_eq_true rfl), (Nat.le_of_ble_eq_true rfl), (Nat.le_of_ble_eq_true rfl), (Nat.le_of_ble_eq_true rfl)⟩ (fun z => if z = 1 then 15 else if z = 2 then 19 else if z = 3 then 23 else 0) (fun z w hp => ?_) (fun u w hp => ?_) (fun z w x hp => ?_)
  · have hz : k < 1 := (List.getElem?_eq_some_iff.mp hk).1
    have h0 : k = 0 := by omega
    subst h0
    cases hk
    exact ho
  · rcases hk z w hp with rfl | rfl | rfl
    · exact ⟨[], (0, 12, 15, 13), [(0, 12, 19, 37), (0, 12, 23, 27)], rfl, (fun y hy => by cases hy), by decide, by decide, rfl, by decide, kk_L_13, kca_IllegalArgumentException⟩
    · exact ⟨[(0, 12, 15, 13)], (0, 12, 19, 37), [(0, 12, 23, 27)], rfl, (fun y hy => by
        simp only [List.mem_cons, List.not_mem_nil, or_false] at hy
        rcases hy with rfl
        · exact ⟨by decide, 1, kk_L_13, by decide⟩), by decide, by decide, rfl, by decide, kk_L_37, kca_IllegalStateException⟩
    · exact ⟨[(0, 12, 15, 13), (0, 12, 19, 37)], (0, 12, 23, 27), [], rfl, (fun y hy => by
        simp only [List.mem_cons, List.not_mem_nil, or_false] at hy
        rcases hy with rfl | rfl
        · exact ⟨by decide, 1, kk_L_13, by decide⟩
        · exact ⟨by decide, 2, kk_L_37, by decide⟩), by decide, by decide, rfl, by decide, kk_L_27, kca_NoSuchElementException⟩
  · obtain ⟨xv, rfl⟩ := hv u w hp
    refine g_i2l X d_L_levels_10 ?_
    refine g_out X (oA_D ho (hPD _ _ hp)) d_L_levels_11 ?_
    refine g_goto X 27 d_L_levels_12 (by decide) ?_
    refine g_iconst X (v := nI 0) d_L_levels_27 (by decide) ?_
    refine g_widen (k := 1) (n := 6) (by decide) (by decide) ?_
    exact i_iret X (oA_D ho (hPD _ _ hp)) d_L_levels_28 (Or.inl ⟨_, w, hp, rfl, rfl⟩)
  · rcases hk z w hp with rfl | rfl | rfl
    · refine g_astore X d_L_levels_15 (by decide) ?_
      refine g_iconst X (v := nI 1) d_L_levels_17 (by decide) ?_
      exact i_iret X (oA_D ho (hPD _ _ hp)) d_L_levels_18 (Or.inr ⟨_, w, hp, rfl, rfl⟩)
    · refine g_astore X d_L_levels_19 (by decide) ?_
      refine g_iconst X (v := nI 2) d_L_levels_21 (by decide) ?_
      exact i_iret X (oA_D ho (hPD _ _ hp)) d_L_levels_22 (Or.inr ⟨_, w, hp, rfl, rfl⟩)
    · refine g_astore X d_L_levels_23 (by decide) ?_
      refine g_iconst X (v := nI 3) d_L_levels_25 (by decide) ?_
      exact i_iret X (oA_D ho (hPD _ _ hp)) d_L_levels_26 (Or.inr ⟨_, w, hp, rfl, rfl⟩)
set_option maxHeartbeats 4000000 in
set_option maxRecDepth 100000 in
theorem c_L_paths {l : Launch} (htr : l.stackTraces = false) {δ : EX} {ad : Nat → Nat} {M : DS} {o : Nat} {f : Nat → Int64} (ho : ¬ Ar ad o) (hinj : Inj ad) {x0 : Int32} {x1 : Int32} {P : OC → va_W → Prop} (hC : CT l y_D_paths cw_D_paths (RM 5) δ (Ar ad) (dl δ ad M) [.ref (ad 0), .int x0, .int x1] P) (hPD : ∀ r w, P r w → va_D (Ar ad) w) (hk : ∀ z w, P (.inl z) w → z = 1 ∨ z = 2 ∨ z = 4 ∨ z = 3) (hv : ∀ u w, P (.inr u) w → ∃ x, u = some (.int x)) : CI Ncs l y_L_paths cw_L_paths (RM 6) δ (Bo ad o) (dl δ ad M ++ [(o, oA δ f)]) [.ref (ad 0), .int x0, .int x1, .ref o] 1 6 (WO δ o f (fun z => if z = 1 then 1 else if z = 2 then 2 else if z = 4 then 3 else if z = 3 then 4 else 0) cvI P) := by
  refine CI.of (hh := [(0, 10, 13, 13), (0, 10, 17, 37), (0, 10, 21, 39), (0, 10, 25, 27)]) (lv := [(0, .ref (ad 0)), (1, .int x0), (2, .int x1), (3, .ref o)]) (Or.inr rfl) (by decide) htr rfl (Nat.le_of_ble_eq_true rfl) (fun κ hl X hnm hE => ?_)
  subst hl
  refine g_aload_n X 3 d_L_paths_0 rfl rfl ?_
  refine g_iconst X (v := nI 0) d_L_paths_1 (by decide) ?_
  refine g_aload_n X 0 d_L_paths_2 rfl rfl ?_
  refine g_iload_n X 1 d_L_paths_3 rfl rfl ?_
  refine g_iload_n X 2 d_L_paths_4 rfl rfl ?_
  refine g_callC hE X (inv_V X (hh2 := []) (av := [.int x0, .int x1]) (rest := [.int (nI 0), .ref o]) (Or.inl rfl) v_L_64.2.2.2.1 v_L_64.1 v_L_64.2.1.1 v_L_64.2.1.2 v_L_64.2.2.2.2.1 v_L_64.2.2.2.2.2 d_L_paths_5 rfl dl_0 rfl) hC (fun q hq => Or.inl (Or.inl hq)) (Spl.l (b := [(o, oA δ f)]) (fun k q hk => ?_)) (hh2 := []) (Or.inl rfl) v_L_64.2.2.2.1 v_L_64.2.2.1 d_L_paths_5 ⟨(Nat.le_of_ble_eq_true rfl), (Nat.le_of_ble_eq_true rfl), (Nat.le_of_ble_eq_true rfl), (Nat.le_of_ble_eq_true rfl)⟩ (fun z => if z = 1 then 13 else if z = 2 then 17 else if z = 4 then 21 else if z = 3 then 25 else 0) (fun z w hp => ?_) (fun u w hp => ?_) (fun z w x hp => ?_)
  · have hz : k < 1 := (List.getElem?_eq_some_iff.mp hk).1
    have h0 : k = 0 := by omega
    subst h0
    cases hk
    exact ho
  · rcases hk z w hp with rfl | rfl | rfl | rfl
    · exact ⟨[], (0, 10, 13, 13), [(0, 10, 17, 37), (0, 10, 21, 39), (0, 10, 25, 27)], rfl, (fun y hy => by cases hy), by decide, by decide, rfl, by decide, kk_L_13, kca_IllegalArgumentException⟩
    · exact ⟨[(0, 10, 13, 13)], (0, 10, 17, 37), [(0, 10, 21, 39), (0, 10, 25, 27)], rfl, (fun y hy => by
        simp only [List.mem_cons, List.not_mem_nil, or_false] at hy
        rcases hy with rfl
        · exact ⟨by decide, 1, kk_L_13, by decide⟩), by decide, by decide, rfl, by decide, kk_L_37, kca_IllegalStateException⟩
    · exact ⟨[(0, 10, 13, 13), (0, 10, 17, 37)], (0, 10, 21, 39), [(0, 10, 25, 27)], rfl, (fun y hy => by
        simp only [List.mem_cons, List.not_mem_nil, or_false] at hy
        rcases hy with rfl | rfl
        · exact ⟨by decide, 1, kk_L_13, by decide⟩
        · exact ⟨by decide, 2, kk_L_37, by decide⟩), by decide, by decide, rfl, by decide, kk_L_39, kca_UnsupportedOperationException⟩
    · exact ⟨[(0, 10, 13, 13), (0, 10, 17, 37), (0, 10, 21, 39)], (0, 10, 25, 27), [], rfl, (fun y hy => by
        simp only [List.mem_cons, List.not_mem_nil, or_false] at hy
        rcases hy with rfl | rfl | rfl
        · exact ⟨by decide, 1, kk_L_13, by decide⟩
        · exact ⟨by decide, 2, kk_L_37, by decide⟩
        · exact ⟨by decide, 4, kk_L_39, by decide⟩), by decide, by decide, rfl, by decide, kk_L_27, kca_NoSuchElementException⟩
  · obtain ⟨xv, rfl⟩ := hv u w hp
    refine g_i2l X d_L_paths_8 ?_
    refine g_out X (oA_D ho (hPD _ _ hp)) d_L_paths_9 ?_
    refine g_goto X 29 d_L_paths_10 (by decide) ?_
    refine g_iconst X (v := nI 0) d_L_paths_29 (by decide) ?_
    refine g_widen (k := 1) (n := 6) (by decide) (by decide) ?_
    exact i_iret X (oA_D ho (hPD _ _ hp)) d_L_paths_30 (Or.inl ⟨_, w, hp, rfl, rfl⟩)
  · rcases hk z w hp with rfl | rfl | rfl | rfl
    · refine g_astore X d_L_paths_13 (by decide) ?_
      refine g_iconst X (v := nI 1) d_L_paths_15 (by decide) ?_
      exact i_iret X (oA_D ho (hPD _ _ hp)) d_L_paths_16 (Or.inr ⟨_, w, hp, rfl, rfl⟩)
    · refine g_astore X d_L_paths_17 (by decide) ?_
      refine g_iconst X (v := nI 2) d_L_paths_19 (by decide) ?_
      exact i_iret X (oA_D ho (hPD _ _ hp)) d_L_paths_20 (Or.inr ⟨_, w, hp, rfl, rfl⟩)
    · refine g_astore X d_L_paths_21 (by decide) ?_
      refine g_iconst X (v := nI 3) d_L_paths_23 (by decide) ?_
      exact i_iret X (oA_D ho (hPD _ _ hp)) d_L_paths_24 (Or.inr ⟨_, w, hp, rfl, rfl⟩)
    · refine g_astore X d_L_paths_25 (by decide) ?_
      refine g_iconst X (v := nI 4) d_L_paths_27 (by decide) ?_
      exact i_iret X (oA_D ho (hPD _ _ hp)) d_L_paths_28 (Or.inr ⟨_, w, hp, rfl, rfl⟩)
set_option maxHeartbeats 4000000 in
set_option maxRecDepth 100000 in
theorem c_L_triangles {l : Launch} (htr : l.stackTraces = false) {δ : EX} {ad : Nat → Nat} {M : DS} {o : Nat} {f : Nat → Int64} (ho : ¬ Ar ad o) (hinj : Inj ad) {x0 : Int32} {P : OC → va_W → Prop} (hC : CT l y_D_triangles cw_D_triangles (RM 2) δ (Ar ad) (dl δ ad M) [.ref (ad 0), .int x0] P) (hPD : ∀ r w, P r w → va_D (Ar ad) w) (hk : ∀ z w, P (.inl z) w → z = 1 ∨ z = 2) (hv : ∀ u w, P (.inr u) w → ∃ x, u = some (.int x)) : CI Ncs l y_L_triangles cw_L_triangles (RM 3) δ (Bo ad o) (dl δ ad M ++ [(o, oA δ f)]) [.ref (ad 0), .int x0, .ref o] 1 6 (WO δ o f (fun z => if z = 1 then 1 else if z = 2 then 2 else 0) cvI P) := by
  refine CI.of (hh := [(0, 9, 12, 13), (0, 9, 15, 37)]) (lv := [(0, .ref (ad 0)), (1, .int x0), (2, .ref o)]) (Or.inr rfl) (by decide) htr rfl (Nat.le_of_ble_eq_true rfl) (fun κ hl X hnm hE => ?_)
  subst hl
  refine g_aload_n X 2 d_L_triangles_0 rfl rfl ?_
  refine g_iconst X (v := nI 0) d_L_triangles_1 (by decide) ?_
  refine g_aload_n X 0 d_L_triangles_2 rfl rfl ?_
  refine g_iload_n X 1 d_L_triangles_3 rfl rfl ?_
  refine g_callC hE X (inv_V X (hh2 := []) (av := [.int x0]) (rest := [.int (nI 0), .ref o]) (Or.inl rfl) v_L_67.2.2.2.1 v_L_67.1 v_L_67.2.1.1 v_L_67.2.1.2 v_L_67.2.2.2.2.1 v_L_67.2.2.2.2.2 d_L_triangles_4 rfl dl_0 rfl) hC (fun q hq => Or.inl (Or.inl hq)) (Spl.l (b := [(o, oA δ f)]) (fun k q hk => ?_)) (hh2 := []) (Or.inl rfl) v_L_67.2.2.2.1 v_L_67.2.2.1 d_L_triangles_4 ⟨(Nat.le_of_ble_eq_true rfl), (Nat.le_of_ble_eq_true rfl), (Nat.le_of_ble_eq_true rfl), (Nat.le_of_ble_eq_true rfl)⟩ (fun z => if z = 1 then 12 else if z = 2 then 15 else 0) (fun z w hp => ?_) (fun u w hp => ?_) (fun z w x hp => ?_)
  · have hz : k < 1 := (List.getElem?_eq_some_iff.mp hk).1
    have h0 : k = 0 := by omega
    subst h0
    cases hk
    exact ho
  · rcases hk z w hp with rfl | rfl
    · exact ⟨[], (0, 9, 12, 13), [(0, 9, 15, 37)], rfl, (fun y hy => by cases hy), by decide, by decide, rfl, by decide, kk_L_13, kca_IllegalArgumentException⟩
    · exact ⟨[(0, 9, 12, 13)], (0, 9, 15, 37), [], rfl, (fun y hy => by
        simp only [List.mem_cons, List.not_mem_nil, or_false] at hy
        rcases hy with rfl
        · exact ⟨by decide, 1, kk_L_13, by decide⟩), by decide, by decide, rfl, by decide, kk_L_37, kca_IllegalStateException⟩
  · obtain ⟨xv, rfl⟩ := hv u w hp
    refine g_i2l X d_L_triangles_7 ?_
    refine g_out X (oA_D ho (hPD _ _ hp)) d_L_triangles_8 ?_
    refine g_goto X 18 d_L_triangles_9 (by decide) ?_
    refine g_iconst X (v := nI 0) d_L_triangles_18 (by decide) ?_
    refine g_widen (k := 1) (n := 6) (by decide) (by decide) ?_
    exact i_iret X (oA_D ho (hPD _ _ hp)) d_L_triangles_19 (Or.inl ⟨_, w, hp, rfl, rfl⟩)
  · rcases hk z w hp with rfl | rfl
    · refine g_astore_n X 3 d_L_triangles_12 rfl (by decide) ?_
      refine g_iconst X (v := nI 1) d_L_triangles_13 (by decide) ?_
      exact i_iret X (oA_D ho (hPD _ _ hp)) d_L_triangles_14 (Or.inr ⟨_, w, hp, rfl, rfl⟩)
    · refine g_astore_n X 3 d_L_triangles_15 rfl (by decide) ?_
      refine g_iconst X (v := nI 2) d_L_triangles_16 (by decide) ?_
      exact i_iret X (oA_D ho (hPD _ _ hp)) d_L_triangles_17 (Or.inr ⟨_, w, hp, rfl, rfl⟩)
set_option maxHeartbeats 4000000 in
set_option maxRecDepth 100000 in
theorem c_L_components {l : Launch} (htr : l.stackTraces = false) {δ : EX} {ad : Nat → Nat} {M : DS} {o : Nat} {f : Nat → Int64} (ho : ¬ Ar ad o) (hinj : Inj ad) {x0 : Int32} {x1 : Int32} {P : OC → va_W → Prop} (hC : CT l y_D_components cw_D_components (RM 2) δ (Ar ad) (dl δ ad M) [.ref (ad 0), .int x0, .int x1] P) (hPD : ∀ r w, P r w → va_D (Ar ad) w) (hk : ∀ z w, P (.inl z) w → z = 1 ∨ z = 2) (hv : ∀ u w, P (.inr u) w → ∃ x, u = some (.int x)) : CI Ncs l y_L_components cw_L_components (RM 3) δ (Bo ad o) (dl δ ad M ++ [(o, oA δ f)]) [.ref (ad 0), .int x0, .int x1, .ref o] 1 6 (WO δ o f (fun z => if z = 1 then 1 else if z = 2 then 2 else 0) cvI P) := by
  refine CI.of (hh := [(0, 10, 13, 13), (0, 10, 17, 37)]) (lv := [(0, .ref (ad 0)), (1, .int x0), (2, .int x1), (3, .ref o)]) (Or.inr rfl) (by decide) htr rfl (Nat.le_of_ble_eq_true rfl) (fun κ hl X hnm hE => ?_)
  subst hl
  refine g_aload_n X 3 d_L_components_0 rfl rfl ?_
  refine g_iconst X (v := nI 0) d_L_components_1 (by decide) ?_
  refine g_aload_n X 0 d_L_components_2 rfl rfl ?_
  refine g_iload_n X 1 d_L_components_3 rfl rfl ?_
  refine g_iload_n X 2 d_L_components_4 rfl rfl ?_
  refine g_callC hE X (inv_V X (hh2 := []) (av := [.int x0, .int x1]) (rest := [.int (nI 0), .ref o]) (Or.inl rfl) v_L_70.2.2.2.1 v_L_70.1 v_L_70.2.1.1 v_L_70.2.1.2 v_L_70.2.2.2.2.1 v_L_70.2.2.2.2.2 d_L_components_5 rfl dl_0 rfl) hC (fun q hq => Or.inl (Or.inl hq)) (Spl.l (b := [(o, oA δ f)]) (fun k q hk => ?_)) (hh2 := []) (Or.inl rfl) v_L_70.2.2.2.1 v_L_70.2.2.1 d_L_components_5 ⟨(Nat.le_of_ble_eq_true rfl), (Nat.le_of_ble_eq_true rfl), (Nat.le_of_ble_eq_true rfl), (Nat.le_of_ble_eq_true rfl)⟩ (fun z => if z = 1 then 13 else if z = 2 then 17 else 0) (fun z w hp => ?_) (fun u w hp => ?_) (fun z w x hp => ?_)
  · have hz : k < 1 := (List.getElem?_eq_some_iff.mp hk).1
    have h0 : k = 0 := by omega
    subst h0
    cases hk
    exact ho
  · rcases hk z w hp with rfl | rfl
    · exact ⟨[], (0, 10, 13, 13), [(0, 10, 17, 37)], rfl, (fun y hy => by cases hy), by decide, by decide, rfl, by decide, kk_L_13, kca_IllegalArgumentException⟩
    · exact ⟨[(0, 10, 13, 13)], (0, 10, 17, 37), [], rfl, (fun y hy => by
        simp only [List.mem_cons, List.not_mem_nil, or_false] at hy
        rcases hy with rfl
        · exact ⟨by decide, 1, kk_L_13, by decide⟩), by decide, by decide, rfl, by decide, kk_L_37, kca_IllegalStateException⟩
  · obtain ⟨xv, rfl⟩ := hv u w hp
    refine g_i2l X d_L_components_8 ?_
    refine g_out X (oA_D ho (hPD _ _ hp)) d_L_components_9 ?_
    refine g_goto X 21 d_L_components_10 (by decide) ?_
    refine g_iconst X (v := nI 0) d_L_components_21 (by decide) ?_
    refine g_widen (k := 1) (n := 6) (by decide) (by decide) ?_
    exact i_iret X (oA_D ho (hPD _ _ hp)) d_L_components_22 (Or.inl ⟨_, w, hp, rfl, rfl⟩)
  · rcases hk z w hp with rfl | rfl
    · refine g_astore X d_L_components_13 (by decide) ?_
      refine g_iconst X (v := nI 1) d_L_components_15 (by decide) ?_
      exact i_iret X (oA_D ho (hPD _ _ hp)) d_L_components_16 (Or.inr ⟨_, w, hp, rfl, rfl⟩)
    · refine g_astore X d_L_components_17 (by decide) ?_
      refine g_iconst X (v := nI 2) d_L_components_19 (by decide) ?_
      exact i_iret X (oA_D ho (hPD _ _ hp)) d_L_components_20 (Or.inr ⟨_, w, hp, rfl, rfl⟩)
end WR
