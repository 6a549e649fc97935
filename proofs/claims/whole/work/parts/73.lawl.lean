/-! The law: the loop, and what comes before it. -/
section LL
variable {κ : KX} {nL : Nat} {rt : Option FieldType} {δ : EX} {rm : Room} {A0 : Nat → Prop} {hh : List (Nat × Nat × Nat × Nat)} {Q : State → Prop} {sc n o : Nat} {F : Nat → Int32} {b : Nat → Nat}
theorem lw_gt {i : Nat} (hn : n < 2 ^ 30) (hi : i < 2 ^ 30) : (nI n - nI 7 < nI i) ↔ n < i + 7 := by
  rw [Int32.lt_iff_toInt_lt, Int32.toInt_sub, nI_toInt (by omega), nI_toInt (by omega), nI_toInt (by omega)]
  rw [Int.bmod_eq_of_le (by omega) (by omega)]
  omega
theorem nI_add7 (i : Nat) : nI i + Int32.ofInt 7 = nI (i + 7) := by
  unfold nI
  rw [Int32.ofNat_add]
  rfl
set_option maxHeartbeats 4000000 in
set_option maxRecDepth 100000 in
theorem lw_loop (X : XO κ R_L code nL rt δ rm A0 hh) (htr : (xl κ).stackTraces = false) (hE : Ncs (xs κ)) (hX : SC κ A0 sc n F) (hnL : 8 ≤ nL) (h1 : 13 ≤ rm.frames) (h2 : 400 ≤ rm.locals) (hn : n < 2 ^ 29) {x : Nat} (fin : ∀ cs sl ws lv, cs ≤ rm.cells → sl ≤ rm.slots → G κ nL δ (Kn κ A0) Q cs sl ws lv [] 1341) :
    ∀ (m i cs sl : Nat) (ad : Nat → Nat) (M : DS) (f : Nat → Int64) (th wd hg : Nat) (s : SS) (w : WS), i ≤ n + 7 → n < i + 7 * (m + 1) → cs + m + 2 ≤ rm.cells → sl + 6 * m + 12 ≤ rm.slots → Inj ad → Rel M s → LG (fun q => A0 q ∨ (xs κ).heap.size ≤ q) o ad b → ad 0 = x → G κ nL δ (Kn κ A0) Q cs sl (LW δ ad M o f b th wd hg s w) [(0, .ref sc), (1, .ref x), (2, .ref (b 0)), (3, .ref o), (4, .int (nI i))] [] 23 := by
  intro m
  induction m with
  | zero =>
    intro i cs sl ad M f th wd hg s w hi hm hc hs hinj hR g hx
    refine g_iload X d_L_law_23 rfl ?_
    refine g_aload_n X 0 d_L_law_25 rfl rfl ?_
    refine g_slen X hX d_L_law_26 ?_
    refine g_bipush X (v := nI 7) d_L_law_27 (by decide) ?_
    refine g_isub X d_L_law_29 ?_
    refine g_icmp_gt X 1341 d_L_law_30 (by decide) (fun _ => ?_) (fun q => ?_)
    · exact fin _ _ _ _ (by omega) (by omega)
    · exact absurd ((lw_gt (by omega) (by omega)).mpr (by omega)) q
  | succ m ih =>
    intro i cs sl ad M f th wd hg s w hi hm hc hs hinj hR g hx
    refine g_iload X d_L_law_23 rfl ?_
    refine g_aload_n X 0 d_L_law_25 rfl rfl ?_
    refine g_slen X hX d_L_law_26 ?_
    refine g_bipush X (v := nI 7) d_L_law_27 (by decide) ?_
    refine g_isub X d_L_law_29 ?_
    refine g_icmp_gt X 1341 d_L_law_30 (by decide) (fun _ => ?_) (fun q => ?_)
    · exact fin _ _ _ _ (by omega) (by omega)
    · have hi7 : i + 7 ≤ n := Nat.not_lt.mp (fun z => q ((lw_gt (by omega) (by omega)).mpr z))
      subst hx
      have nx : ∀ ad' M' f' th' wd' hg' s' w', Inj ad' → Ar ad' = Ar ad → ad' 0 = ad 0 → Rel M' s' → G κ nL δ (Kn κ A0) Q (cs + 1) (sl + 6) (LW δ ad' M' o f' b th' wd' hg' s' w') [(0, .ref sc), (1, .ref (ad 0)), (2, .ref (b 0)), (3, .ref o), (4, .int (nI i))] [] 1335 := by
        intro ad' M' f' th' wd' hg' s' w' i1 i2 i3 i4
        refine g_iinc X d_L_law_1335 rfl (v := nI (i + 7)) (nI_add7 i) (by omega) ?_
        refine g_goto X 23 d_L_law_1338 (by decide) ?_
        exact g_sb (ih (i + 7) (cs + 1) (sl + 6) ad' M' f' th' wd' hg' s' w' (by omega) (by omega) (by omega) (by omega) i1 i4 (g.swap i2) i3) ⟨rfl, rfl, rfl, rfl, rfl, trivial⟩
      refine g_aload_n X 0 d_L_law_33 rfl rfl ?_
      refine g_iload X d_L_law_34 rfl ?_
      refine g_sld X hX (by omega) (by omega) d_L_law_36 ?_
      refine g_bipush X (v := nI 15) d_L_law_37 (by decide) ?_
      refine g_iand X d_L_law_39 ?_
      rcases bH_or (n := 14) (by decide) (F i &&& nI 15) with c | ⟨j, hj, hx⟩
      · refine g_tout X 1335 d_L_law_40 ?_ (by decide) ?_
        · rcases c with c | c
          · left
            rw [Int32.lt_iff_toInt_lt, Int32.toInt_zero] at c
            exact c
          · right
            rw [Int32.lt_iff_toInt_lt, nI_toInt (by decide)] at c
            exact c
        · refine g_widen (k := cs + 1) (n := sl + 6) (by omega) (by omega) ?_
          exact nx ad M f th wd hg s w hinj rfl rfl hR
      · refine g_ei hx ?_
        obtain rfl | rfl | rfl | rfl | rfl | rfl | rfl | rfl | rfl | rfl | rfl | rfl | rfl | rfl | rfl : j = 0 ∨ j = 1 ∨ j = 2 ∨ j = 3 ∨ j = 4 ∨ j = 5 ∨ j = 6 ∨ j = 7 ∨ j = 8 ∨ j = 9 ∨ j = 10 ∨ j = 11 ∨ j = 12 ∨ j = 13 ∨ j = 14 := by omega
        · refine g_tin X (off := 76) 116 d_L_law_40 (by decide) (by decide) (by decide) (by decide) ?_
          exact lc_shape X htr hE hX hinj hR g hnL h1 h2 (by omega) (by omega) hi7 (by omega) nx
        · refine g_tin X (off := 136) 176 d_L_law_40 (by decide) (by decide) (by decide) (by decide) ?_
          exact lc_put X htr hE hX hinj hR g hnL h1 h2 (by omega) (by omega) hi7 (by omega) nx
        · refine g_tin X (off := 240) 280 d_L_law_40 (by decide) (by decide) (by decide) (by decide) ?_
          exact lc_drop X htr hE hX hinj hR g hnL h1 h2 (by omega) (by omega) hi7 (by omega) nx
        · refine g_tin X (off := 327) 367 d_L_law_40 (by decide) (by decide) (by decide) (by decide) ?_
          exact lc_at X htr hE hX hinj hR g hnL h1 h2 (by omega) (by omega) hi7 (by omega) nx
        · refine g_tin X (off := 406) 446 d_L_law_40 (by decide) (by decide) (by decide) (by decide) ?_
          exact lc_size X htr hE hX hinj hR g hnL h1 h2 (by omega) (by omega) hi7 (by omega) nx
        · refine g_tin X (off := 462) 502 d_L_law_40 (by decide) (by decide) (by decide) (by decide) ?_
          exact lc_multiply X htr hE hX hinj hR g hnL h1 h2 (by omega) (by omega) hi7 (by omega) nx
        · refine g_tin X (off := 580) 620 d_L_law_40 (by decide) (by decide) (by decide) (by decide) ?_
          exact lc_add X htr hE hX hinj hR g hnL h1 h2 (by omega) (by omega) hi7 (by omega) nx
        · refine g_tin X (off := 672) 712 d_L_law_40 (by decide) (by decide) (by decide) (by decide) ?_
          exact lc_each X htr hE hX hinj hR g hnL h1 h2 (by omega) (by omega) hi7 (by omega) nx
        · refine g_tin X (off := 764) 804 d_L_law_40 (by decide) (by decide) (by decide) (by decide) ?_
          exact lc_transpose X htr hE hX hinj hR g hnL h1 h2 (by omega) (by omega) hi7 (by omega) nx
        · refine g_tin X (off := 832) 872 d_L_law_40 (by decide) (by decide) (by decide) (by decide) ?_
          exact lc_select X htr hE hX hinj hR g hnL h1 h2 (by omega) (by omega) hi7 (by omega) nx
        · refine g_tin X (off := 956) 996 d_L_law_40 (by decide) (by decide) (by decide) (by decide) ?_
          exact lc_reduce X htr hE hX hinj hR g hnL h1 h2 (by omega) (by omega) hi7 (by omega) nx
        · refine g_tin X (off := 1023) 1063 d_L_law_40 (by decide) (by decide) (by decide) (by decide) ?_
          exact lc_levels X htr hE hX hinj hR g hnL h1 h2 (by omega) (by omega) hi7 (by omega) nx
        · refine g_tin X (off := 1103) 1143 d_L_law_40 (by decide) (by decide) (by decide) (by decide) ?_
          exact lc_paths X htr hE hX hinj hR g hnL h1 h2 (by omega) (by omega) hi7 (by omega) nx
        · refine g_tin X (off := 1171) 1211 d_L_law_40 (by decide) (by decide) (by decide) (by decide) ?_
          exact lc_triangles X htr hE hX hinj hR g hnL h1 h2 (by omega) (by omega) hi7 (by omega) nx
        · refine g_tin X (off := 1227) 1267 d_L_law_40 (by decide) (by decide) (by decide) (by decide) ?_
          exact lc_components X htr hE hX hinj hR g hnL h1 h2 (by omega) (by omega) hi7 (by omega) nx
theorem va_D_split {A : Nat → Prop} {a c : va_W} (h : va_D A (a ++ c)) : va_D A a ∧ va_D A c ∧ ∀ (k k' : Nat) (q q' : Nat × va_E), a[k]? = some q → c[k']? = some q' → ¬ q.1 = q'.1 := by
  have la : ∀ (k : Nat) (q : Nat × va_E), a[k]? = some q → (a ++ c)[k]? = some q := fun k q hk => by
    rw [List.getElem?_append_left (List.getElem?_eq_some_iff.mp hk).1]
    exact hk
  have lc : ∀ (k : Nat) (q : Nat × va_E), c[k]? = some q → (a ++ c)[a.length + k]? = some q := fun k q hk => by
    rw [List.getElem?_append_right (by omega), Nat.add_sub_cancel_left]
    exact hk
  refine ⟨⟨fun i j p q hi hj e => h.1 i j p q (la i p hi) (la j q hj) e, fun k q hk => h.2 k q (la k q hk)⟩, ⟨fun i j p q hi hj e => ?_, fun k q hk => h.2 _ q (lc k q hk)⟩, fun k k' q q' hk hk' e => ?_⟩
  · have := h.1 _ _ p q (lc i p hi) (lc j q hj) e
    omega
  · have := h.1 _ _ q q' (la k q hk) (lc k' q' hk') e
    have := (List.getElem?_eq_some_iff.mp hk).1
    omega
theorem dl_inj {A : Nat → Prop} {ad : Nat → Nat} {M : DS} (h : va_D A (dl δ ad M)) : Inj ad ∧ ∀ q, Ar ad q → A q := by
  have hg : ∀ i, i < 23 → (dl δ ad M)[i]? = some (ad i, df δ ad M i) := fun i hi => wl_get hi
  refine ⟨fun i j hi hj e => h.1 i j _ _ (hg i hi) (hg j hj) e, ?_⟩
  rintro q ⟨i, hi, rfl⟩
  exact h.2 i _ (hg i hi)
theorem rl_get {th wd hg : Nat} {s : SS} {w : WS} {i : Nat} (h : i < 7) : ∃ e, (rl δ b th wd hg s w)[i]? = some (b i, e) := by
  obtain rfl | rfl | rfl | rfl | rfl | rfl | rfl : i = 0 ∨ i = 1 ∨ i = 2 ∨ i = 3 ∨ i = 4 ∨ i = 5 ∨ i = 6 := by omega
  all_goals exact ⟨_, rfl⟩
theorem rl_inj {A : Nat → Prop} {th wd hg : Nat} {s : SS} {w : WS} (h : va_D A (rl δ b th wd hg s w)) : In7 b ∧ ∀ q, Br b q → A q := by
  refine ⟨fun i j hi hj e => ?_, ?_⟩
  · obtain ⟨e1, q1⟩ := rl_get (δ := δ) (b := b) (th := th) (wd := wd) (hg := hg) (s := s) (w := w) hi
    obtain ⟨e2, q2⟩ := rl_get (δ := δ) (b := b) (th := th) (wd := wd) (hg := hg) (s := s) (w := w) hj
    exact h.1 i j _ _ q1 q2 e
  · rintro q ⟨i, hi, rfl⟩
    obtain ⟨e1, q1⟩ := rl_get (δ := δ) (b := b) (th := th) (wd := wd) (hg := hg) (s := s) (w := w) hi
    exact h.2 i _ q1
theorem Rel_0 : Rel (fun _ => M0) s0 := by
  intro r hr
  have e1 : s0.1 r = 1 := if_pos hr
  have e2 : s0.2.1 r = 1 := if_pos hr
  rw [e1, e2]
  exact ⟨rfl, rfl, by decide, fun p _ => ⟨rfl, fun z => by cases z⟩⟩
theorem va_D_nil {A : Nat → Prop} : va_D A [] := ⟨fun i j p q h => by simp at h, fun k q h => by simp at h⟩
theorem LG_of {A : Nat → Prop} {ad : Nat → Nat} {M : DS} {f : Nat → Int64} {th wd hg : Nat} {s : SS} {w : WS} (h : va_D A ((dl δ ad M ++ rl δ b th wd hg s w) ++ [(o, oA δ f)])) : Inj ad ∧ LG A o ad b := by
  obtain ⟨h1, h2, h3⟩ := va_D_split h
  obtain ⟨h4, h5, h6⟩ := va_D_split h1
  obtain ⟨a1, a2⟩ := dl_inj h4
  obtain ⟨b1, b2⟩ := rl_inj h5
  have hA : A o := h2.2 0 _ rfl
  refine ⟨a1, b1, ?_, ?_, ?_, a2, b2, hA⟩
  · rintro ⟨i, hi, e⟩
    have q : (dl δ ad M ++ rl δ b th wd hg s w)[i]? = some (ad i, df δ ad M i) := by
      rw [List.getElem?_append_left (by rw [dl_len]; exact hi)]
      exact wl_get hi
    exact h3 i 0 _ _ q rfl e.symm
  · rintro ⟨i, hi, e⟩
    obtain ⟨e1, q1⟩ := rl_get (δ := δ) (b := b) (th := th) (wd := wd) (hg := hg) (s := s) (w := w) hi
    have q : (dl δ ad M ++ rl δ b th wd hg s w)[23 + i]? = some (b i, e1) := by
      rw [List.getElem?_append_right (by rw [dl_len]; omega), dl_len, Nat.add_sub_cancel_left]
      exact q1
    exact h3 _ 0 _ _ q rfl e.symm
  · rintro q ⟨i, hi, rfl⟩ ⟨j, hj, e⟩
    obtain ⟨e1, q1⟩ := rl_get (δ := δ) (b := b) (th := th) (wd := wd) (hg := hg) (s := s) (w := w) hj
    exact h6 i j _ _ (wl_get hi) q1 e
set_option maxHeartbeats 4000000 in
set_option maxRecDepth 100000 in
theorem lw_begin (X : XO κ R_L code nL rt δ rm NoA hh) (htr : (xl κ).stackTraces = false) (hE : Ncs (xs κ)) (hAO : va_AO R_M (xs κ)) (hnL : 8 ≤ nL) (h1 : 13 ≤ rm.frames) (h2 : 400 ≤ rm.locals) (hc : 2000 ≤ rm.cells) (hs : 8000 ≤ rm.slots) (hn : n ≤ 3584) (hX : SC κ NoA sc n F) (fin : ∀ cs sl ws lv, cs ≤ rm.cells → sl ≤ rm.slots → G κ nL δ (Kn κ NoA) Q cs sl ws lv [] 1341) : G κ nL δ (Kn κ NoA) Q 0 0 [] [(0, .ref sc)] [] 0 := by
  refine g_new X va_D_nil in_D t_D_ok (ci := 0) rfl kk_L_8 knD ki_D (fs := [.null, .null]) (fun j hj => by
    obtain rfl | rfl : j = 0 ∨ j = 1 := by omega
    all_goals rfl) (by omega) (by omega) d_L_law_0 (fun d hD => ?_)
  refine g_dup X d_L_law_3 rfl ?_
  refine g_callI (wr := []) (fun U hU => hAO.moved hU.alike) X hD (c_D_init htr) (fun _ _ h => h.1) kc_D_init kl_L_73 kin_D_init ki_D rfl (by decide) (by decide +kernel) d_L_law_4 ⟨by show 3 + 1 ≤ _; omega, by show 1 + (_ + 11) + 100 ≤ _; omega, by show 0 + 1 + 22 ≤ _; omega, by show 0 + 2 + 930 ≤ _; omega⟩ (fun w hw hD => ?_)
  obtain ⟨-, ad, rfl, rfl⟩ := hw
  refine g_astore_n X 1 d_L_law_7 rfl (by omega) ?_
  refine g_new X hD in_R t_R_ok (ci := 2) rfl kk_L_74 knR ki_R (fs := [.int 0, .null, .null, .null, .null, .int 0, .int 0, .null, .null, .int 0]) (fun j hj => by
    obtain rfl | rfl | rfl | rfl | rfl | rfl | rfl | rfl | rfl | rfl : j = 0 ∨ j = 1 ∨ j = 2 ∨ j = 3 ∨ j = 4 ∨ j = 5 ∨ j = 6 ∨ j = 7 ∨ j = 8 ∨ j = 9 := by omega
    all_goals rfl) (by omega) (by omega) d_L_law_8 (fun r hD => ?_)
  refine g_dup X d_L_law_11 rfl ?_
  refine g_callI (fun _ _ => trivial) X hD (c_R_init htr) (fun _ _ h => h.1) kc_R_init kl_L_76 kin_R_init ki_R rfl (by decide) (by decide +kernel) d_L_law_12 ⟨by show 2 + 1 ≤ _; omega, by show 1 + (_ + 11) + 60 ≤ _; omega, by show 0 + 1 + 22 + 1 + 6 ≤ _; omega, by show 0 + 2 + 930 + 10 + 908 ≤ _; omega⟩ (fun w hw hD => ?_)
  obtain ⟨-, b, rfl, rfl⟩ := hw
  refine g_astore_n X 2 d_L_law_15 rfl (by omega) ?_
  refine g_iconst X (v := nI 1) d_L_law_16 (by decide) ?_
  refine g_newa X hD (atype := .long) (N := 1) (t0 := 1) kal rfl rfl (a0 := (1, .inr (.inl (fun _ => 0)))) (fun _ => rfl) (by decide) (by decide) (by omega) (by omega) d_L_law_17 (fun o hD => ?_)
  refine g_astore_n X 3 d_L_law_19 rfl (by omega) ?_
  refine g_iconst X (v := nI 0) d_L_law_20 (by decide) ?_
  refine g_istore X d_L_law_21 (by omega) ?_
  have hD2 : va_D (fun q => NoA q ∨ (xs κ).heap.size ≤ q) ((dl δ ad (fun _ => M0) ++ rl δ b 0 0 0 s0 w0) ++ [(o, oA δ (fun _ => 0))]) := hD
  obtain ⟨hinj, g⟩ := LG_of hD2
  refine g_wk (ws' := LW δ ad (fun _ => M0) o (fun _ => 0) b 0 0 0 s0 w0) (fun H hP => ?_) ?_
  · have hP : va_P δ.1 vwCl ((dl δ ad (fun _ => M0) ++ rl δ b 0 0 0 s0 w0) ++ [(o, oA δ (fun _ => 0))]) H := hP
    have p1 := va_P_app.mp hP
    have p2 := va_P_app.mp p1.1
    exact va_P_app.mpr ⟨va_P_app.mpr ⟨p2.1, p1.2⟩, p2.2⟩
  · exact g_sb (lw_loop X htr hE hX hnL h1 h2 (by omega) fin 512 0 _ _ ad (fun _ => M0) (fun _ => 0) 0 0 0 s0 w0 (by omega) (by omega) (by omega) (by omega) hinj Rel_0 g rfl) ⟨rfl, rfl, rfl, rfl, rfl, trivial⟩
end LL
