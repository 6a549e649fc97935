section RA4
/-- the mask, as the reference looks at it -/
def MkR (s : SS) (mv : Int32) (hw : Nat) (mk : Nat → Bool) : Prop := (mv = -1 ∧ ∀ p, mk p = true) ∨ ∃ m, m < 6 ∧ mv = nI m ∧ ∀ i j, i < 8 → j < 8 → mk (8 * i + j) = (s.2.2.1 (64 * m + 8 * i + j) == decide (hw % 2 = 0))
def mrj (s : SS) (a c k : Nat) (mk : Nat → Bool) (i j : Nat) (w : WS) : WS := if mk (8 * i + j) = true then crS s w a c k i j else w
def mri (s : SS) (a c k wd : Nat) (mk : Nat → Bool) (i : Nat) (w : WS) : WS := fl (mrj s a c k mk i) 0 wd w
def mrS (s : SS) (to a c k hw : Nat) (mk : Nat → Bool) (w : WS) : WS := if 2 ≤ hw then joS s to k (fl (mri s a c k (s.2.1 c) mk) 0 (s.1 a) w) else fl (mri s a c k (s.2.1 c) mk) 0 (s.1 a) w
set_option maxHeartbeats 4000000 in
set_option maxRecDepth 100000 in
theorem l_R_mul_j {κ : KX} {δ : EX} {b : Nat → Nat} {th wd hg : Nat} {P : OC → va_W → Prop} (X : XO κ R_R b_R_multiply 11 (some .int) δ (RM 3) (Br b) []) (htr : (xl κ).stackTraces = false) (hi : In7 b) {s : SS} {to a c k hw : Nat} {mv : Int32} {mk : Nat → Bool} (hto : to < 6) (ha : a < 6) (hc : c < 6) (hk : k < 4) (hhw : hw ≤ 3) (h8 : wd ≤ 8) (h9 : s.2.1 a ≤ 8) (hmk : MkR s mv hw mk) {ii : Nat} (hii : ii < 8) : ∀ (n i : Nat) (w : WS), i + n = wd → G κ 11 δ (Kn κ (Br b)) (Qe κ δ (Br b) P) 0 0 (rl δ b th wd hg s (fl (mrj s a c k mk ii) i n w)) [(0, .ref (b 0)), (1, .int (nI to)), (2, .int (nI a)), (3, .int (nI c)), (4, .int (nI k)), (5, .int mv), (6, .int (nI hw)), (9, .int (nI ii))] [] 301 → G κ 11 δ (Kn κ (Br b)) (Qe κ δ (Br b) P) 0 0 (rl δ b th wd hg s w) [(0, .ref (b 0)), (1, .int (nI to)), (2, .int (nI a)), (3, .int (nI c)), (4, .int (nI k)), (5, .int mv), (6, .int (nI hw)), (9, .int (nI ii)), (10, .int (nI (i)))] [] 234 := by
  intro n
  induction n with
  | zero =>
    intro i w h hx
    refine g_iload X d_R_multiply_234 rfl ?_
    refine g_aload_n X 0 d_R_multiply_236 rfl rfl ?_
    refine q_wide X d_R_multiply_237 ?_
    refine n_ge X 301 d_R_multiply_240 (by decide) (by omega) (by omega) (fun h240 => ?_) (fun h240 => ?_)
    · exact g_sb hx ⟨rfl, rfl, rfl, rfl, rfl, rfl, rfl, rfl, trivial⟩
    · exact absurd h240 (by omega)
  | succ n ih =>
    intro i w h hx
    refine g_iload X d_R_multiply_234 rfl ?_
    refine g_aload_n X 0 d_R_multiply_236 rfl rfl ?_
    refine q_wide X d_R_multiply_237 ?_
    refine n_ge X 301 d_R_multiply_240 (by decide) (by omega) (by omega) (fun h240 => ?_) (fun h240 => ?_)
    · exact absurd h240 (by omega)
    · rcases hmk with ⟨hv, hm⟩ | ⟨m, hm, hv, hk2⟩
      · refine g_iload X d_R_multiply_243 rfl ?_
        refine g_iconst X (v := (-1)) d_R_multiply_245 (by decide) ?_
        refine g_icmp_eq X 283 d_R_multiply_246 (by decide) (fun h246 => ?_) (fun h246 => ?_)
        · refine g_aload_n X 0 d_R_multiply_283 rfl rfl ?_
          refine g_iload_n X 2 d_R_multiply_284 rfl rfl ?_
          refine g_iload_n X 3 d_R_multiply_285 rfl rfl ?_
          refine g_iload X d_R_multiply_286 rfl ?_
          refine g_iload X d_R_multiply_288 rfl ?_
          refine g_iload X d_R_multiply_290 rfl ?_
          refine g_VN1 X v_R_86 (q0 := 0) rfl (ci := 2) rfl (c_R_cross htr hi ha hc hk (by omega) (by omega) h9) d_R_multiply_292 rfl ?_ ?_
          · exact ⟨Nat.le_of_ble_eq_true rfl, Nat.le_of_ble_eq_true rfl, Nat.le_of_ble_eq_true rfl, Nat.le_of_ble_eq_true rfl⟩
          refine g_iinc X d_R_multiply_295 rfl (nI_1 _) (by decide) ?_
          refine g_goto X 234 d_R_multiply_298 (by decide) ?_
          exact g_sb (ih (i + 1) _ (by omega) (g_fl (wf := fun z => (rl δ b th wd hg s z)) (lf := fun z => [(0, .ref (b 0)), (1, .int (nI to)), (2, .int (nI a)), (3, .int (nI c)), (4, .int (nI k)), (5, .int mv), (6, .int (nI hw)), (9, .int (nI ii))]) (F := mrj s a c k mk ii) (by simp [mrj, hm]) hx)) ⟨rfl, rfl, rfl, rfl, rfl, rfl, rfl, rfl, rfl, trivial⟩
        · exact absurd hv h246
      · refine g_iload X d_R_multiply_243 rfl ?_
        refine g_iconst X (v := (-1)) d_R_multiply_245 (by decide) ?_
        refine g_icmp_eq X 283 d_R_multiply_246 (by decide) (fun h246 => ?_) (fun h246 => ?_)
        · exact absurd (hv.symm.trans h246) (nI_m1 hm)
        · refine g_aload_n X 0 d_R_multiply_249 rfl rfl ?_
          refine q_has X d_R_multiply_250 ?_
          refine g_bipush X (v := nI 64) d_R_multiply_253 (by decide) ?_
          refine g_iload X d_R_multiply_255 rfl ?_
          refine g_ei hv ?_
          refine n_mul X d_R_multiply_257 ?_
          refine g_bipush X (v := nI 8) d_R_multiply_258 (by decide) ?_
          refine g_iload X d_R_multiply_260 rfl ?_
          refine n_mul X d_R_multiply_262 ?_
          refine n_add X d_R_multiply_263 ?_
          refine g_iload X d_R_multiply_264 rfl ?_
          refine n_add X d_R_multiply_266 ?_
          refine a_has X (by omega) d_R_multiply_267 ?_
          refine g_iload X d_R_multiply_268 rfl ?_
          refine g_iconst X (v := nI 2) d_R_multiply_270 (by decide) ?_
          refine n_rem X (by omega) (by decide) (by decide) d_R_multiply_271 ?_
          refine n_zn X 279 d_R_multiply_272 (by decide) (by omega) (fun h272 => ?_) (fun h272 => ?_)
          · refine g_iconst X (v := nI 0) d_R_multiply_279 (by decide) ?_
            refine g_icmp_ne X 295 d_R_multiply_280 (by decide) (fun h280 => ?_) (fun h280 => ?_)
            · refine g_iinc X d_R_multiply_295 rfl (nI_1 _) (by decide) ?_
              refine g_goto X 234 d_R_multiply_298 (by decide) ?_
              exact g_sb (ih (i + 1) _ (by omega) (g_fl (wf := fun z => (rl δ b th wd hg s z)) (lf := fun z => [(0, .ref (b 0)), (1, .int (nI to)), (2, .int (nI a)), (3, .int (nI c)), (4, .int (nI k)), (5, .int mv), (6, .int (nI hw)), (9, .int (nI ii))]) (F := mrj s a c k mk ii) (by have e := hk2 ii i (by omega) (by omega); simp only [b2_1, b2_00] at h280; simp [mrj, e, h272, h280]) hx)) ⟨rfl, rfl, rfl, rfl, rfl, rfl, rfl, rfl, rfl, trivial⟩
            · refine g_aload_n X 0 d_R_multiply_283 rfl rfl ?_
              refine g_iload_n X 2 d_R_multiply_284 rfl rfl ?_
              refine g_iload_n X 3 d_R_multiply_285 rfl rfl ?_
              refine g_iload X d_R_multiply_286 rfl ?_
              refine g_iload X d_R_multiply_288 rfl ?_
              refine g_iload X d_R_multiply_290 rfl ?_
              refine g_VN1 X v_R_86 (q0 := 0) rfl (ci := 2) rfl (c_R_cross htr hi ha hc hk (by omega) (by omega) h9) d_R_multiply_292 rfl ?_ ?_
              · exact ⟨Nat.le_of_ble_eq_true rfl, Nat.le_of_ble_eq_true rfl, Nat.le_of_ble_eq_true rfl, Nat.le_of_ble_eq_true rfl⟩
              refine g_iinc X d_R_multiply_295 rfl (nI_1 _) (by decide) ?_
              refine g_goto X 234 d_R_multiply_298 (by decide) ?_
              exact g_sb (ih (i + 1) _ (by omega) (g_fl (wf := fun z => (rl δ b th wd hg s z)) (lf := fun z => [(0, .ref (b 0)), (1, .int (nI to)), (2, .int (nI a)), (3, .int (nI c)), (4, .int (nI k)), (5, .int mv), (6, .int (nI hw)), (9, .int (nI ii))]) (F := mrj s a c k mk ii) (by have e := hk2 ii i (by omega) (by omega); simp only [b2_1, b2_00] at h280; simp [mrj, e, h272, h280]) hx)) ⟨rfl, rfl, rfl, rfl, rfl, rfl, rfl, rfl, rfl, trivial⟩
          · refine g_iconst X (v := nI 1) d_R_multiply_275 (by decide) ?_
            refine g_goto X 280 d_R_multiply_276 (by decide) ?_
            refine g_icmp_ne X 295 d_R_multiply_280 (by decide) (fun h280 => ?_) (fun h280 => ?_)
            · refine g_iinc X d_R_multiply_295 rfl (nI_1 _) (by decide) ?_
              refine g_goto X 234 d_R_multiply_298 (by decide) ?_
              exact g_sb (ih (i + 1) _ (by omega) (g_fl (wf := fun z => (rl δ b th wd hg s z)) (lf := fun z => [(0, .ref (b 0)), (1, .int (nI to)), (2, .int (nI a)), (3, .int (nI c)), (4, .int (nI k)), (5, .int mv), (6, .int (nI hw)), (9, .int (nI ii))]) (F := mrj s a c k mk ii) (by have e := hk2 ii i (by omega) (by omega); simp only [b2_1, b2_00] at h280; simp [mrj, e, h272, h280]) hx)) ⟨rfl, rfl, rfl, rfl, rfl, rfl, rfl, rfl, rfl, trivial⟩
            · refine g_aload_n X 0 d_R_multiply_283 rfl rfl ?_
              refine g_iload_n X 2 d_R_multiply_284 rfl rfl ?_
              refine g_iload_n X 3 d_R_multiply_285 rfl rfl ?_
              refine g_iload X d_R_multiply_286 rfl ?_
              refine g_iload X d_R_multiply_288 rfl ?_
              refine g_iload X d_R_multiply_290 rfl ?_
              refine g_VN1 X v_R_86 (q0 := 0) rfl (ci := 2) rfl (c_R_cross htr hi ha hc hk (by omega) (by omega) h9) d_R_multiply_292 rfl ?_ ?_
              · exact ⟨Nat.le_of_ble_eq_true rfl, Nat.le_of_ble_eq_true rfl, Nat.le_of_ble_eq_true rfl, Nat.le_of_ble_eq_true rfl⟩
              refine g_iinc X d_R_multiply_295 rfl (nI_1 _) (by decide) ?_
              refine g_goto X 234 d_R_multiply_298 (by decide) ?_
              exact g_sb (ih (i + 1) _ (by omega) (g_fl (wf := fun z => (rl δ b th wd hg s z)) (lf := fun z => [(0, .ref (b 0)), (1, .int (nI to)), (2, .int (nI a)), (3, .int (nI c)), (4, .int (nI k)), (5, .int mv), (6, .int (nI hw)), (9, .int (nI ii))]) (F := mrj s a c k mk ii) (by have e := hk2 ii i (by omega) (by omega); simp only [b2_1, b2_00] at h280; simp [mrj, e, h272, h280]) hx)) ⟨rfl, rfl, rfl, rfl, rfl, rfl, rfl, rfl, rfl, trivial⟩
set_option maxHeartbeats 4000000 in
set_option maxRecDepth 100000 in
theorem l_R_mul_i {κ : KX} {δ : EX} {b : Nat → Nat} {th wd hg : Nat} {P : OC → va_W → Prop} (X : XO κ R_R b_R_multiply 11 (some .int) δ (RM 3) (Br b) []) (htr : (xl κ).stackTraces = false) (hi : In7 b) {s : SS} {to a c k hw : Nat} {mv : Int32} {mk : Nat → Bool} (hto : to < 6) (ha : a < 6) (hc : c < 6) (hk : k < 4) (hhw : hw ≤ 3) (h7 : hg ≤ 8) (h8 : wd ≤ 8) (h9 : s.2.1 a ≤ 8) (hmk : MkR s mv hw mk) : ∀ (n i : Nat) (w : WS), i + n = hg → G κ 11 δ (Kn κ (Br b)) (Qe κ δ (Br b) P) 0 0 (rl δ b th wd hg s (fl (mri s a c k wd mk) i n w)) [(0, .ref (b 0)), (1, .int (nI to)), (2, .int (nI a)), (3, .int (nI c)), (4, .int (nI k)), (5, .int mv), (6, .int (nI hw))] [] 307 → G κ 11 δ (Kn κ (Br b)) (Qe κ δ (Br b) P) 0 0 (rl δ b th wd hg s w) [(0, .ref (b 0)), (1, .int (nI to)), (2, .int (nI a)), (3, .int (nI c)), (4, .int (nI k)), (5, .int mv), (6, .int (nI hw)), (9, .int (nI (i)))] [] 222 := by
  intro n
  induction n with
  | zero =>
    intro i w h hx
    refine g_iload X d_R_multiply_222 rfl ?_
    refine g_aload_n X 0 d_R_multiply_224 rfl rfl ?_
    refine q_high X d_R_multiply_225 ?_
    refine n_ge X 307 d_R_multiply_228 (by decide) (by omega) (by omega) (fun h228 => ?_) (fun h228 => ?_)
    · exact g_sb hx ⟨rfl, rfl, rfl, rfl, rfl, rfl, rfl, trivial⟩
    · exact absurd h228 (by omega)
  | succ n ih =>
    intro i w h hx
    refine g_iload X d_R_multiply_222 rfl ?_
    refine g_aload_n X 0 d_R_multiply_224 rfl rfl ?_
    refine q_high X d_R_multiply_225 ?_
    refine n_ge X 307 d_R_multiply_228 (by decide) (by omega) (by omega) (fun h228 => ?_) (fun h228 => ?_)
    · exact absurd h228 (by omega)
    · refine g_iconst X (v := nI 0) d_R_multiply_231 (by decide) ?_
      refine g_istore X d_R_multiply_232 (by decide) ?_
      refine g_sb (l_R_mul_j X htr hi hto ha hc hk hhw h8 h9 hmk (by omega) wd 0 w (by omega) ?_) ⟨rfl, rfl, rfl, rfl, rfl, rfl, rfl, rfl, rfl, trivial⟩
      refine g_iinc X d_R_multiply_301 rfl (nI_1 _) (by decide) ?_
      refine g_goto X 222 d_R_multiply_304 (by decide) ?_
      exact g_sb (ih (i + 1) _ (by omega) (g_fl (wf := fun z => (rl δ b th wd hg s z)) (lf := fun z => [(0, .ref (b 0)), (1, .int (nI to)), (2, .int (nI a)), (3, .int (nI c)), (4, .int (nI k)), (5, .int mv), (6, .int (nI hw))]) (F := mri s a c k wd mk) (by rfl) hx)) ⟨rfl, rfl, rfl, rfl, rfl, rfl, rfl, rfl, trivial⟩
set_option maxHeartbeats 4000000 in
set_option maxRecDepth 100000 in
theorem c_R_multiply {l : Launch} (htr : l.stackTraces = false) {δ : EX} {b : Nat → Nat} (hi : In7 b) {th wd hg : Nat} {s : SS} {w : WS} {to a c k hw : Nat} {mv : Int32} {mk : Nat → Bool} (hto : to < 6) (ha : a < 6) (hc : c < 6) (hk : k < 4) (hhw : hw ≤ 3) (h8 : ∀ r, r < 6 → s.1 r ≤ 8 ∧ s.2.1 r ≤ 8) (hf1 : s.2.1 a = s.1 c) (hf2 : mv = -1 ∨ ∃ m, m < 6 ∧ mv = nI m ∧ s.1 m = s.1 a ∧ s.2.1 m = s.2.1 c) (hf3 : ¬ 2 ≤ hw ∨ (s.1 to = s.1 a ∧ s.2.1 to = s.2.1 c)) (hmk : MkR s mv hw mk) : CT l y_R_multiply cw_R_multiply (RM 3) δ (Br b) (rl δ b th wd hg s w) [.ref (b 0), .int (nI to), .int (nI a), .int (nI c), .int (nI k), .int mv, .int (nI hw)] (FN δ b (s.2.1 c) (s.1 a) s (mrS s to a c k hw mk (bgS w)) to (nI k)) := by
  refine CT.ofN (lv := [(0, .ref (b 0)), (1, .int (nI to)), (2, .int (nI a)), (3, .int (nI c)), (4, .int (nI k)), (5, .int mv), (6, .int (nI hw))]) (Or.inl ⟨rfl, rfl⟩) (by decide) htr rfl (Nat.le_of_ble_eq_true rfl) (fun κ hl X => ?_)
  subst hl
  rcases hf2 with rfl | ⟨m, hm, rfl, hm2, hm3⟩
  · refine g_iload_n X 1 d_R_multiply_0 rfl rfl ?_
    refine g_SP X KOk.n s_R_38 (c_R_isReg htr hto) d_R_multiply_1 rfl ?_ ?_
    · exact ⟨Nat.le_of_ble_eq_true rfl, Nat.le_of_ble_eq_true rfl, Nat.le_of_ble_eq_true rfl, Nat.le_of_ble_eq_true rfl⟩
    refine g_if_eq X 58 d_R_multiply_4 (by decide) (fun q => absurd q (by decide)) (fun _ => ?_)
    refine g_iload_n X 2 d_R_multiply_7 rfl rfl ?_
    refine g_SP X KOk.n s_R_38 (c_R_isReg htr ha) d_R_multiply_8 rfl ?_ ?_
    · exact ⟨Nat.le_of_ble_eq_true rfl, Nat.le_of_ble_eq_true rfl, Nat.le_of_ble_eq_true rfl, Nat.le_of_ble_eq_true rfl⟩
    refine g_if_eq X 58 d_R_multiply_11 (by decide) (fun q => absurd q (by decide)) (fun _ => ?_)
    refine g_iload_n X 3 d_R_multiply_14 rfl rfl ?_
    refine g_SP X KOk.n s_R_38 (c_R_isReg htr hc) d_R_multiply_15 rfl ?_ ?_
    · exact ⟨Nat.le_of_ble_eq_true rfl, Nat.le_of_ble_eq_true rfl, Nat.le_of_ble_eq_true rfl, Nat.le_of_ble_eq_true rfl⟩
    refine g_if_eq X 58 d_R_multiply_18 (by decide) (fun q => absurd q (by decide)) (fun _ => ?_)
    refine g_iload X d_R_multiply_21 rfl ?_
    refine g_SP X KOk.n s_R_79 (c_R_isRing htr hk) d_R_multiply_23 rfl ?_ ?_
    · exact ⟨Nat.le_of_ble_eq_true rfl, Nat.le_of_ble_eq_true rfl, Nat.le_of_ble_eq_true rfl, Nat.le_of_ble_eq_true rfl⟩
    refine g_if_eq X 58 d_R_multiply_26 (by decide) (fun q => absurd q (by decide)) (fun _ => ?_)
    refine g_iload X d_R_multiply_29 rfl ?_
    refine g_iconst X (v := (-1)) d_R_multiply_31 (by decide) ?_
    refine g_icmp_eq X 43 d_R_multiply_32 (by decide) (fun _ => ?_) (fun q => absurd q (by decide))
    refine g_iload X d_R_multiply_43 rfl ?_
    refine n_zl X 58 d_R_multiply_45 (by decide) (by omega) ?_
    refine g_iload X d_R_multiply_48 rfl ?_
    refine g_iconst X (v := nI 3) d_R_multiply_50 (by decide) ?_
    refine n_gt X 58 d_R_multiply_51 (by decide) (by omega) (by omega) (fun h51 => ?_) (fun h51 => ?_)
    · exact absurd h51 (by omega)
    · refine g_iconst X (v := nI 1) d_R_multiply_54 (by decide) ?_
      refine g_goto X 59 d_R_multiply_55 (by decide) ?_
      refine g_istore X d_R_multiply_59 (by decide) ?_
      refine g_aload_n X 0 d_R_multiply_61 rfl rfl ?_
      refine g_iload X d_R_multiply_62 rfl ?_
      refine g_if_eq X 71 d_R_multiply_64 (by decide) (fun q => absurd q (by decide)) (fun _ => ?_)
      refine g_iconst X (v := nI 0) d_R_multiply_67 (by decide) ?_
      refine g_goto X 72 d_R_multiply_68 (by decide) ?_
      refine p_thrown X hi d_R_multiply_72 ?_
      refine g_aload_n X 0 d_R_multiply_75 rfl rfl ?_
      refine q_thrown X d_R_multiply_76 ?_
      refine g_if_le X 84 d_R_multiply_79 (by decide) (fun _ => ?_) (fun q => absurd q (by decide))
      have q1 := h8 to hto
      have q2 := h8 a ha
      have q3 := h8 c hc
      refine g_aload_n X 0 d_R_multiply_84 rfl rfl ?_
      refine q_columns X d_R_multiply_85 ?_
      refine g_iload_n X 2 d_R_multiply_88 rfl rfl ?_
      refine a_columns X (by omega) d_R_multiply_89 ?_
      refine g_aload_n X 0 d_R_multiply_90 rfl rfl ?_
      refine q_rows X d_R_multiply_91 ?_
      refine g_iload_n X 3 d_R_multiply_94 rfl rfl ?_
      refine a_rows X (by omega) d_R_multiply_95 ?_
      refine n_ne X 177 d_R_multiply_96 (by decide) (by omega) (by omega) (fun h96 => ?_) (fun h96 => ?_)
      · exact absurd hf1 h96
      · refine g_iload X d_R_multiply_99 rfl ?_
        refine g_iconst X (v := (-1)) d_R_multiply_101 (by decide) ?_
        refine g_icmp_eq X 137 d_R_multiply_102 (by decide) (fun _ => ?_) (fun q => absurd q (by decide))
        refine g_iload X d_R_multiply_137 rfl ?_
        refine g_iconst X (v := nI 2) d_R_multiply_139 (by decide) ?_
        refine n_lt X 173 d_R_multiply_140 (by decide) (by omega) (by omega) (fun h140 => ?_) (fun h140 => ?_)
        · refine g_iconst X (v := nI 1) d_R_multiply_173 (by decide) ?_
          refine g_goto X 178 d_R_multiply_174 (by decide) ?_
          refine g_istore X d_R_multiply_178 (by decide) ?_
          refine g_aload_n X 0 d_R_multiply_180 rfl rfl ?_
          refine g_iload X d_R_multiply_181 rfl ?_
          refine g_if_eq X 190 d_R_multiply_183 (by decide) (fun q => absurd q (by decide)) (fun _ => ?_)
          refine g_iconst X (v := nI 0) d_R_multiply_186 (by decide) ?_
          refine g_goto X 191 d_R_multiply_187 (by decide) ?_
          refine p_thrown X hi d_R_multiply_191 ?_
          refine g_aload_n X 0 d_R_multiply_194 rfl rfl ?_
          refine q_thrown X d_R_multiply_195 ?_
          refine g_if_le X 203 d_R_multiply_198 (by decide) (fun _ => ?_) (fun q => absurd q (by decide))
          refine g_aload_n X 0 d_R_multiply_203 rfl rfl ?_
          refine g_aload_n X 0 d_R_multiply_204 rfl rfl ?_
          refine q_rows X d_R_multiply_205 ?_
          refine g_iload_n X 2 d_R_multiply_208 rfl rfl ?_
          refine a_rows X (by omega) d_R_multiply_209 ?_
          refine g_aload_n X 0 d_R_multiply_210 rfl rfl ?_
          refine q_columns X d_R_multiply_211 ?_
          refine g_iload_n X 3 d_R_multiply_214 rfl rfl ?_
          refine a_columns X (by omega) d_R_multiply_215 ?_
          refine g_VN1 X v_R_82 (q0 := 0) rfl (ci := 2) rfl (c_R_begin htr hi) d_R_multiply_216 rfl ?_ ?_
          · exact ⟨Nat.le_of_ble_eq_true rfl, Nat.le_of_ble_eq_true rfl, Nat.le_of_ble_eq_true rfl, Nat.le_of_ble_eq_true rfl⟩
          refine g_iconst X (v := nI 0) d_R_multiply_219 (by decide) ?_
          refine g_istore X d_R_multiply_220 (by decide) ?_
          refine g_sb (l_R_mul_i X htr hi hto ha hc hk hhw (by omega) (by omega) (by omega) hmk (s.1 a) 0 (bgS w) (by omega) ?_) ⟨rfl, rfl, rfl, rfl, rfl, rfl, rfl, rfl, trivial⟩
          refine g_iload X d_R_multiply_307 rfl ?_
          refine g_iconst X (v := nI 1) d_R_multiply_309 (by decide) ?_
          refine n_le X 320 d_R_multiply_310 (by decide) (by omega) (by omega) (fun h310 => ?_) (fun h310 => ?_)
          · have ew : (mrS s to a c k hw mk (bgS w)) = fl (mri s a c k (s.2.1 c) mk) 0 (s.1 a) (bgS w) := by
              unfold mrS
              rw [if_neg (by omega)]
            rw [← ew]
            refine g_aload_n X 0 d_R_multiply_320 rfl rfl ?_
            refine g_aload_n X 0 d_R_multiply_321 rfl rfl ?_
            refine q_far X d_R_multiply_322 ?_
            refine z_eq X 332 d_R_multiply_325 (by decide) (fun h325 => ?_) (fun h325 => ?_)
            · refine g_iconst X (v := nI 0) d_R_multiply_332 (by decide) ?_
              refine p_thrown X hi d_R_multiply_333 ?_
              refine g_aload_n X 0 d_R_multiply_336 rfl rfl ?_
              refine q_far X d_R_multiply_337 ?_
              refine z_eq X 347 d_R_multiply_340 (by decide) (fun _ => ?_) (fun q => absurd ((h325).symm.trans q) (by decide))
              refine g_aload_n X 0 d_R_multiply_347 rfl rfl ?_
              refine g_iload_n X 1 d_R_multiply_348 rfl rfl ?_
              refine g_iload X d_R_multiply_349 rfl ?_
              refine g_VN1 X v_R_93 (q0 := 0) rfl (ci := 2) rfl (c_R_finish htr hi hto) d_R_multiply_351 rfl ?_ ?_
              · exact ⟨Nat.le_of_ble_eq_true rfl, Nat.le_of_ble_eq_true rfl, Nat.le_of_ble_eq_true rfl, Nat.le_of_ble_eq_true rfl⟩
              exact g_iret X KOk.n d_R_multiply_354 (Or.inr ⟨h325, rfl, rfl⟩)
            · refine g_iconst X (v := nI 3) d_R_multiply_328 (by decide) ?_
              refine g_goto X 333 d_R_multiply_329 (by decide) ?_
              refine p_thrown X hi d_R_multiply_333 ?_
              refine g_aload_n X 0 d_R_multiply_336 rfl rfl ?_
              refine q_far X d_R_multiply_337 ?_
              refine z_eq X 347 d_R_multiply_340 (by decide) (fun q => absurd ((h325).symm.trans q) (by decide)) (fun _ => ?_)
              refine g_iconst X (v := nI 0) d_R_multiply_343 (by decide) ?_
              refine g_goto X 354 d_R_multiply_344 (by decide) ?_
              exact g_iret X KOk.n d_R_multiply_354 (Or.inl ⟨h325, rfl, rfl⟩)
          · refine g_aload_n X 0 d_R_multiply_313 rfl rfl ?_
            refine g_iload_n X 1 d_R_multiply_314 rfl rfl ?_
            refine g_iload X d_R_multiply_315 rfl ?_
            refine g_VN1 X v_R_90 (q0 := 0) rfl (ci := 2) rfl (c_R_join htr hi hto hk) d_R_multiply_317 rfl ?_ ?_
            · exact ⟨Nat.le_of_ble_eq_true rfl, Nat.le_of_ble_eq_true rfl, Nat.le_of_ble_eq_true rfl, Nat.le_of_ble_eq_true rfl⟩
            have ew : (mrS s to a c k hw mk (bgS w)) = joS s to k (fl (mri s a c k (s.2.1 c) mk) 0 (s.1 a) (bgS w)) := by
              unfold mrS
              rw [if_pos (by omega)]
            rw [← ew]
            refine g_aload_n X 0 d_R_multiply_320 rfl rfl ?_
            refine g_aload_n X 0 d_R_multiply_321 rfl rfl ?_
            refine q_far X d_R_multiply_322 ?_
            refine z_eq X 332 d_R_multiply_325 (by decide) (fun h325 => ?_) (fun h325 => ?_)
            · refine g_iconst X (v := nI 0) d_R_multiply_332 (by decide) ?_
              refine p_thrown X hi d_R_multiply_333 ?_
              refine g_aload_n X 0 d_R_multiply_336 rfl rfl ?_
              refine q_far X d_R_multiply_337 ?_
              refine z_eq X 347 d_R_multiply_340 (by decide) (fun _ => ?_) (fun q => absurd ((h325).symm.trans q) (by decide))
              refine g_aload_n X 0 d_R_multiply_347 rfl rfl ?_
              refine g_iload_n X 1 d_R_multiply_348 rfl rfl ?_
              refine g_iload X d_R_multiply_349 rfl ?_
              refine g_VN1 X v_R_93 (q0 := 0) rfl (ci := 2) rfl (c_R_finish htr hi hto) d_R_multiply_351 rfl ?_ ?_
              · exact ⟨Nat.le_of_ble_eq_true rfl, Nat.le_of_ble_eq_true rfl, Nat.le_of_ble_eq_true rfl, Nat.le_of_ble_eq_true rfl⟩
              exact g_iret X KOk.n d_R_multiply_354 (Or.inr ⟨h325, rfl, rfl⟩)
            · refine g_iconst X (v := nI 3) d_R_multiply_328 (by decide) ?_
              refine g_goto X 333 d_R_multiply_329 (by decide) ?_
              refine p_thrown X hi d_R_multiply_333 ?_
              refine g_aload_n X 0 d_R_multiply_336 rfl rfl ?_
              refine q_far X d_R_multiply_337 ?_
              refine z_eq X 347 d_R_multiply_340 (by decide) (fun q => absurd ((h325).symm.trans q) (by decide)) (fun _ => ?_)
              refine g_iconst X (v := nI 0) d_R_multiply_343 (by decide) ?_
              refine g_goto X 354 d_R_multiply_344 (by decide) ?_
              exact g_iret X KOk.n d_R_multiply_354 (Or.inl ⟨h325, rfl, rfl⟩)
        · refine g_aload_n X 0 d_R_multiply_143 rfl rfl ?_
          refine q_rows X d_R_multiply_144 ?_
          refine g_iload_n X 1 d_R_multiply_147 rfl rfl ?_
          refine a_rows X (by omega) d_R_multiply_148 ?_
          refine g_aload_n X 0 d_R_multiply_149 rfl rfl ?_
          refine q_rows X d_R_multiply_150 ?_
          refine g_iload_n X 2 d_R_multiply_153 rfl rfl ?_
          refine a_rows X (by omega) d_R_multiply_154 ?_
          refine n_ne X 177 d_R_multiply_155 (by decide) (by omega) (by omega) (fun h155 => ?_) (fun h155 => ?_)
          · rcases hf3 with q | q
            · exact absurd h140 q
            · exact absurd q.1 h155
          · refine g_aload_n X 0 d_R_multiply_158 rfl rfl ?_
            refine q_columns X d_R_multiply_159 ?_
            refine g_iload_n X 1 d_R_multiply_162 rfl rfl ?_
            refine a_columns X (by omega) d_R_multiply_163 ?_
            refine g_aload_n X 0 d_R_multiply_164 rfl rfl ?_
            refine q_columns X d_R_multiply_165 ?_
            refine g_iload_n X 3 d_R_multiply_168 rfl rfl ?_
            refine a_columns X (by omega) d_R_multiply_169 ?_
            refine n_ne X 177 d_R_multiply_170 (by decide) (by omega) (by omega) (fun h170 => ?_) (fun h170 => ?_)
            · rcases hf3 with q | q
              · exact absurd h140 q
              · exact absurd q.2 h170
            · refine g_iconst X (v := nI 1) d_R_multiply_173 (by decide) ?_
              refine g_goto X 178 d_R_multiply_174 (by decide) ?_
              refine g_istore X d_R_multiply_178 (by decide) ?_
              refine g_aload_n X 0 d_R_multiply_180 rfl rfl ?_
              refine g_iload X d_R_multiply_181 rfl ?_
              refine g_if_eq X 190 d_R_multiply_183 (by decide) (fun q => absurd q (by decide)) (fun _ => ?_)
              refine g_iconst X (v := nI 0) d_R_multiply_186 (by decide) ?_
              refine g_goto X 191 d_R_multiply_187 (by decide) ?_
              refine p_thrown X hi d_R_multiply_191 ?_
              refine g_aload_n X 0 d_R_multiply_194 rfl rfl ?_
              refine q_thrown X d_R_multiply_195 ?_
              refine g_if_le X 203 d_R_multiply_198 (by decide) (fun _ => ?_) (fun q => absurd q (by decide))
              refine g_aload_n X 0 d_R_multiply_203 rfl rfl ?_
              refine g_aload_n X 0 d_R_multiply_204 rfl rfl ?_
              refine q_rows X d_R_multiply_205 ?_
              refine g_iload_n X 2 d_R_multiply_208 rfl rfl ?_
              refine a_rows X (by omega) d_R_multiply_209 ?_
              refine g_aload_n X 0 d_R_multiply_210 rfl rfl ?_
              refine q_columns X d_R_multiply_211 ?_
              refine g_iload_n X 3 d_R_multiply_214 rfl rfl ?_
              refine a_columns X (by omega) d_R_multiply_215 ?_
              refine g_VN1 X v_R_82 (q0 := 0) rfl (ci := 2) rfl (c_R_begin htr hi) d_R_multiply_216 rfl ?_ ?_
              · exact ⟨Nat.le_of_ble_eq_true rfl, Nat.le_of_ble_eq_true rfl, Nat.le_of_ble_eq_true rfl, Nat.le_of_ble_eq_true rfl⟩
              refine g_iconst X (v := nI 0) d_R_multiply_219 (by decide) ?_
              refine g_istore X d_R_multiply_220 (by decide) ?_
              refine g_sb (l_R_mul_i X htr hi hto ha hc hk hhw (by omega) (by omega) (by omega) hmk (s.1 a) 0 (bgS w) (by omega) ?_) ⟨rfl, rfl, rfl, rfl, rfl, rfl, rfl, rfl, trivial⟩
              refine g_iload X d_R_multiply_307 rfl ?_
              refine g_iconst X (v := nI 1) d_R_multiply_309 (by decide) ?_
              refine n_le X 320 d_R_multiply_310 (by decide) (by omega) (by omega) (fun h310 => ?_) (fun h310 => ?_)
              · have ew : (mrS s to a c k hw mk (bgS w)) = fl (mri s a c k (s.2.1 c) mk) 0 (s.1 a) (bgS w) := by
                  unfold mrS
                  rw [if_neg (by omega)]
                rw [← ew]
                refine g_aload_n X 0 d_R_multiply_320 rfl rfl ?_
                refine g_aload_n X 0 d_R_multiply_321 rfl rfl ?_
                refine q_far X d_R_multiply_322 ?_
                refine z_eq X 332 d_R_multiply_325 (by decide) (fun h325 => ?_) (fun h325 => ?_)
                · refine g_iconst X (v := nI 0) d_R_multiply_332 (by decide) ?_
                  refine p_thrown X hi d_R_multiply_333 ?_
                  refine g_aload_n X 0 d_R_multiply_336 rfl rfl ?_
                  refine q_far X d_R_multiply_337 ?_
                  refine z_eq X 347 d_R_multiply_340 (by decide) (fun _ => ?_) (fun q => absurd ((h325).symm.trans q) (by decide))
                  refine g_aload_n X 0 d_R_multiply_347 rfl rfl ?_
                  refine g_iload_n X 1 d_R_multiply_348 rfl rfl ?_
                  refine g_iload X d_R_multiply_349 rfl ?_
                  refine g_VN1 X v_R_93 (q0 := 0) rfl (ci := 2) rfl (c_R_finish htr hi hto) d_R_multiply_351 rfl ?_ ?_
                  · exact ⟨Nat.le_of_ble_eq_true rfl, Nat.le_of_ble_eq_true rfl, Nat.le_of_ble_eq_true rfl, Nat.le_of_ble_eq_true rfl⟩
                  exact g_iret X KOk.n d_R_multiply_354 (Or.inr ⟨h325, rfl, rfl⟩)
                · refine g_iconst X (v := nI 3) d_R_multiply_328 (by decide) ?_
                  refine g_goto X 333 d_R_multiply_329 (by decide) ?_
                  refine p_thrown X hi d_R_multiply_333 ?_
                  refine g_aload_n X 0 d_R_multiply_336 rfl rfl ?_
                  refine q_far X d_R_multiply_337 ?_
                  refine z_eq X 347 d_R_multiply_340 (by decide) (fun q => absurd ((h325).symm.trans q) (by decide)) (fun _ => ?_)
                  refine g_iconst X (v := nI 0) d_R_multiply_343 (by decide) ?_
                  refine g_goto X 354 d_R_multiply_344 (by decide) ?_
                  exact g_iret X KOk.n d_R_multiply_354 (Or.inl ⟨h325, rfl, rfl⟩)
              · refine g_aload_n X 0 d_R_multiply_313 rfl rfl ?_
                refine g_iload_n X 1 d_R_multiply_314 rfl rfl ?_
                refine g_iload X d_R_multiply_315 rfl ?_
                refine g_VN1 X v_R_90 (q0 := 0) rfl (ci := 2) rfl (c_R_join htr hi hto hk) d_R_multiply_317 rfl ?_ ?_
                · exact ⟨Nat.le_of_ble_eq_true rfl, Nat.le_of_ble_eq_true rfl, Nat.le_of_ble_eq_true rfl, Nat.le_of_ble_eq_true rfl⟩
                have ew : (mrS s to a c k hw mk (bgS w)) = joS s to k (fl (mri s a c k (s.2.1 c) mk) 0 (s.1 a) (bgS w)) := by
                  unfold mrS
                  rw [if_pos (by omega)]
                rw [← ew]
                refine g_aload_n X 0 d_R_multiply_320 rfl rfl ?_
                refine g_aload_n X 0 d_R_multiply_321 rfl rfl ?_
                refine q_far X d_R_multiply_322 ?_
                refine z_eq X 332 d_R_multiply_325 (by decide) (fun h325 => ?_) (fun h325 => ?_)
                · refine g_iconst X (v := nI 0) d_R_multiply_332 (by decide) ?_
                  refine p_thrown X hi d_R_multiply_333 ?_
                  refine g_aload_n X 0 d_R_multiply_336 rfl rfl ?_
                  refine q_far X d_R_multiply_337 ?_
                  refine z_eq X 347 d_R_multiply_340 (by decide) (fun _ => ?_) (fun q => absurd ((h325).symm.trans q) (by decide))
                  refine g_aload_n X 0 d_R_multiply_347 rfl rfl ?_
                  refine g_iload_n X 1 d_R_multiply_348 rfl rfl ?_
                  refine g_iload X d_R_multiply_349 rfl ?_
                  refine g_VN1 X v_R_93 (q0 := 0) rfl (ci := 2) rfl (c_R_finish htr hi hto) d_R_multiply_351 rfl ?_ ?_
                  · exact ⟨Nat.le_of_ble_eq_true rfl, Nat.le_of_ble_eq_true rfl, Nat.le_of_ble_eq_true rfl, Nat.le_of_ble_eq_true rfl⟩
                  exact g_iret X KOk.n d_R_multiply_354 (Or.inr ⟨h325, rfl, rfl⟩)
                · refine g_iconst X (v := nI 3) d_R_multiply_328 (by decide) ?_
                  refine g_goto X 333 d_R_multiply_329 (by decide) ?_
                  refine p_thrown X hi d_R_multiply_333 ?_
                  refine g_aload_n X 0 d_R_multiply_336 rfl rfl ?_
                  refine q_far X d_R_multiply_337 ?_
                  refine z_eq X 347 d_R_multiply_340 (by decide) (fun q => absurd ((h325).symm.trans q) (by decide)) (fun _ => ?_)
                  refine g_iconst X (v := nI 0) d_R_multiply_343 (by decide) ?_
                  refine g_goto X 354 d_R_multiply_344 (by decide) ?_
                  exact g_iret X KOk.n d_R_multiply_354 (Or.inl ⟨h325, rfl, rfl⟩)
  · refine g_iload_n X 1 d_R_multiply_0 rfl rfl ?_
    refine g_SP X KOk.n s_R_38 (c_R_isReg htr hto) d_R_multiply_1 rfl ?_ ?_
    · exact ⟨Nat.le_of_ble_eq_true rfl, Nat.le_of_ble_eq_true rfl, Nat.le_of_ble_eq_true rfl, Nat.le_of_ble_eq_true rfl⟩
    refine g_if_eq X 58 d_R_multiply_4 (by decide) (fun q => absurd q (by decide)) (fun _ => ?_)
    refine g_iload_n X 2 d_R_multiply_7 rfl rfl ?_
    refine g_SP X KOk.n s_R_38 (c_R_isReg htr ha) d_R_multiply_8 rfl ?_ ?_
    · exact ⟨Nat.le_of_ble_eq_true rfl, Nat.le_of_ble_eq_true rfl, Nat.le_of_ble_eq_true rfl, Nat.le_of_ble_eq_true rfl⟩
    refine g_if_eq X 58 d_R_multiply_11 (by decide) (fun q => absurd q (by decide)) (fun _ => ?_)
    refine g_iload_n X 3 d_R_multiply_14 rfl rfl ?_
    refine g_SP X KOk.n s_R_38 (c_R_isReg htr hc) d_R_multiply_15 rfl ?_ ?_
    · exact ⟨Nat.le_of_ble_eq_true rfl, Nat.le_of_ble_eq_true rfl, Nat.le_of_ble_eq_true rfl, Nat.le_of_ble_eq_true rfl⟩
    refine g_if_eq X 58 d_R_multiply_18 (by decide) (fun q => absurd q (by decide)) (fun _ => ?_)
    refine g_iload X d_R_multiply_21 rfl ?_
    refine g_SP X KOk.n s_R_79 (c_R_isRing htr hk) d_R_multiply_23 rfl ?_ ?_
    · exact ⟨Nat.le_of_ble_eq_true rfl, Nat.le_of_ble_eq_true rfl, Nat.le_of_ble_eq_true rfl, Nat.le_of_ble_eq_true rfl⟩
    refine g_if_eq X 58 d_R_multiply_26 (by decide) (fun q => absurd q (by decide)) (fun _ => ?_)
    refine g_iload X d_R_multiply_29 rfl ?_
    refine g_iconst X (v := (-1)) d_R_multiply_31 (by decide) ?_
    refine g_icmp_eq X 43 d_R_multiply_32 (by decide) (fun h32 => ?_) (fun h32 => ?_)
    · exact absurd h32 (nI_m1 hm)
    · refine g_iload X d_R_multiply_35 rfl ?_
      refine g_SP X KOk.n s_R_38 (c_R_isReg htr hm) d_R_multiply_37 rfl ?_ ?_
      · exact ⟨Nat.le_of_ble_eq_true rfl, Nat.le_of_ble_eq_true rfl, Nat.le_of_ble_eq_true rfl, Nat.le_of_ble_eq_true rfl⟩
      refine g_if_eq X 58 d_R_multiply_40 (by decide) (fun q => absurd q (by decide)) (fun _ => ?_)
      refine g_iload X d_R_multiply_43 rfl ?_
      refine n_zl X 58 d_R_multiply_45 (by decide) (by omega) ?_
      refine g_iload X d_R_multiply_48 rfl ?_
      refine g_iconst X (v := nI 3) d_R_multiply_50 (by decide) ?_
      refine n_gt X 58 d_R_multiply_51 (by decide) (by omega) (by omega) (fun h51 => ?_) (fun h51 => ?_)
      · exact absurd h51 (by omega)
      · refine g_iconst X (v := nI 1) d_R_multiply_54 (by decide) ?_
        refine g_goto X 59 d_R_multiply_55 (by decide) ?_
        refine g_istore X d_R_multiply_59 (by decide) ?_
        refine g_aload_n X 0 d_R_multiply_61 rfl rfl ?_
        refine g_iload X d_R_multiply_62 rfl ?_
        refine g_if_eq X 71 d_R_multiply_64 (by decide) (fun q => absurd q (by decide)) (fun _ => ?_)
        refine g_iconst X (v := nI 0) d_R_multiply_67 (by decide) ?_
        refine g_goto X 72 d_R_multiply_68 (by decide) ?_
        refine p_thrown X hi d_R_multiply_72 ?_
        refine g_aload_n X 0 d_R_multiply_75 rfl rfl ?_
        refine q_thrown X d_R_multiply_76 ?_
        refine g_if_le X 84 d_R_multiply_79 (by decide) (fun _ => ?_) (fun q => absurd q (by decide))
        have q1 := h8 to hto
        have q2 := h8 a ha
        have q3 := h8 c hc
        have q4 := h8 m hm
        refine g_aload_n X 0 d_R_multiply_84 rfl rfl ?_
        refine q_columns X d_R_multiply_85 ?_
        refine g_iload_n X 2 d_R_multiply_88 rfl rfl ?_
        refine a_columns X (by omega) d_R_multiply_89 ?_
        refine g_aload_n X 0 d_R_multiply_90 rfl rfl ?_
        refine q_rows X d_R_multiply_91 ?_
        refine g_iload_n X 3 d_R_multiply_94 rfl rfl ?_
        refine a_rows X (by omega) d_R_multiply_95 ?_
        refine n_ne X 177 d_R_multiply_96 (by decide) (by omega) (by omega) (fun h96 => ?_) (fun h96 => ?_)
        · exact absurd hf1 h96
        · refine g_iload X d_R_multiply_99 rfl ?_
          refine g_iconst X (v := (-1)) d_R_multiply_101 (by decide) ?_
          refine g_icmp_eq X 137 d_R_multiply_102 (by decide) (fun h102 => ?_) (fun h102 => ?_)
          · exact absurd h102 (nI_m1 hm)
          · refine g_aload_n X 0 d_R_multiply_105 rfl rfl ?_
            refine q_rows X d_R_multiply_106 ?_
            refine g_iload X d_R_multiply_109 rfl ?_
            refine a_rows X (by omega) d_R_multiply_111 ?_
            refine g_aload_n X 0 d_R_multiply_112 rfl rfl ?_
            refine q_rows X d_R_multiply_113 ?_
            refine g_iload_n X 2 d_R_multiply_116 rfl rfl ?_
            refine a_rows X (by omega) d_R_multiply_117 ?_
            refine n_ne X 177 d_R_multiply_118 (by decide) (by omega) (by omega) (fun h118 => ?_) (fun h118 => ?_)
            · exact absurd hm2 h118
            · refine g_aload_n X 0 d_R_multiply_121 rfl rfl ?_
              refine q_columns X d_R_multiply_122 ?_
              refine g_iload X d_R_multiply_125 rfl ?_
              refine a_columns X (by omega) d_R_multiply_127 ?_
              refine g_aload_n X 0 d_R_multiply_128 rfl rfl ?_
              refine q_columns X d_R_multiply_129 ?_
              refine g_iload_n X 3 d_R_multiply_132 rfl rfl ?_
              refine a_columns X (by omega) d_R_multiply_133 ?_
              refine n_ne X 177 d_R_multiply_134 (by decide) (by omega) (by omega) (fun h134 => ?_) (fun h134 => ?_)
              · exact absurd hm3 h134
              · refine g_iload X d_R_multiply_137 rfl ?_
                refine g_iconst X (v := nI 2) d_R_multiply_139 (by decide) ?_
                refine n_lt X 173 d_R_multiply_140 (by decide) (by omega) (by omega) (fun h140 => ?_) (fun h140 => ?_)
                · refine g_iconst X (v := nI 1) d_R_multiply_173 (by decide) ?_
                  refine g_goto X 178 d_R_multiply_174 (by decide) ?_
                  refine g_istore X d_R_multiply_178 (by decide) ?_
                  refine g_aload_n X 0 d_R_multiply_180 rfl rfl ?_
                  refine g_iload X d_R_multiply_181 rfl ?_
                  refine g_if_eq X 190 d_R_multiply_183 (by decide) (fun q => absurd q (by decide)) (fun _ => ?_)
                  refine g_iconst X (v := nI 0) d_R_multiply_186 (by decide) ?_
                  refine g_goto X 191 d_R_multiply_187 (by decide) ?_
                  refine p_thrown X hi d_R_multiply_191 ?_
                  refine g_aload_n X 0 d_R_multiply_194 rfl rfl ?_
                  refine q_thrown X d_R_multiply_195 ?_
                  refine g_if_le X 203 d_R_multiply_198 (by decide) (fun _ => ?_) (fun q => absurd q (by decide))
                  refine g_aload_n X 0 d_R_multiply_203 rfl rfl ?_
                  refine g_aload_n X 0 d_R_multiply_204 rfl rfl ?_
                  refine q_rows X d_R_multiply_205 ?_
                  refine g_iload_n X 2 d_R_multiply_208 rfl rfl ?_
                  refine a_rows X (by omega) d_R_multiply_209 ?_
                  refine g_aload_n X 0 d_R_multiply_210 rfl rfl ?_
                  refine q_columns X d_R_multiply_211 ?_
                  refine g_iload_n X 3 d_R_multiply_214 rfl rfl ?_
                  refine a_columns X (by omega) d_R_multiply_215 ?_
                  refine g_VN1 X v_R_82 (q0 := 0) rfl (ci := 2) rfl (c_R_begin htr hi) d_R_multiply_216 rfl ?_ ?_
                  · exact ⟨Nat.le_of_ble_eq_true rfl, Nat.le_of_ble_eq_true rfl, Nat.le_of_ble_eq_true rfl, Nat.le_of_ble_eq_true rfl⟩
                  refine g_iconst X (v := nI 0) d_R_multiply_219 (by decide) ?_
                  refine g_istore X d_R_multiply_220 (by decide) ?_
                  refine g_sb (l_R_mul_i X htr hi hto ha hc hk hhw (by omega) (by omega) (by omega) hmk (s.1 a) 0 (bgS w) (by omega) ?_) ⟨rfl, rfl, rfl, rfl, rfl, rfl, rfl, rfl, trivial⟩
                  refine g_iload X d_R_multiply_307 rfl ?_
                  refine g_iconst X (v := nI 1) d_R_multiply_309 (by decide) ?_
                  refine n_le X 320 d_R_multiply_310 (by decide) (by omega) (by omega) (fun h310 => ?_) (fun h310 => ?_)
                  · have ew : (mrS s to a c k hw mk (bgS w)) = fl (mri s a c k (s.2.1 c) mk) 0 (s.1 a) (bgS w) := by
                      unfold mrS
                      rw [if_neg (by omega)]
                    rw [← ew]
                    refine g_aload_n X 0 d_R_multiply_320 rfl rfl ?_
                    refine g_aload_n X 0 d_R_multiply_321 rfl rfl ?_
                    refine q_far X d_R_multiply_322 ?_
                    refine z_eq X 332 d_R_multiply_325 (by decide) (fun h325 => ?_) (fun h325 => ?_)
                    · refine g_iconst X (v := nI 0) d_R_multiply_332 (by decide) ?_
                      refine p_thrown X hi d_R_multiply_333 ?_
                      refine g_aload_n X 0 d_R_multiply_336 rfl rfl ?_
                      refine q_far X d_R_multiply_337 ?_
                      refine z_eq X 347 d_R_multiply_340 (by decide) (fun _ => ?_) (fun q => absurd ((h325).symm.trans q) (by decide))
                      refine g_aload_n X 0 d_R_multiply_347 rfl rfl ?_
                      refine g_iload_n X 1 d_R_multiply_348 rfl rfl ?_
                      refine g_iload X d_R_multiply_349 rfl ?_
                      refine g_VN1 X v_R_93 (q0 := 0) rfl (ci := 2) rfl (c_R_finish htr hi hto) d_R_multiply_351 rfl ?_ ?_
                      · exact ⟨Nat.le_of_ble_eq_true rfl, Nat.le_of_ble_eq_true rfl, Nat.le_of_ble_eq_true rfl, Nat.le_of_ble_eq_true rfl⟩
                      exact g_iret X KOk.n d_R_multiply_354 (Or.inr ⟨h325, rfl, rfl⟩)
                    · refine g_iconst X (v := nI 3) d_R_multiply_328 (by decide) ?_
                      refine g_goto X 333 d_R_multiply_329 (by decide) ?_
                      refine p_thrown X hi d_R_multiply_333 ?_
                      refine g_aload_n X 0 d_R_multiply_336 rfl rfl ?_
                      refine q_far X d_R_multiply_337 ?_
                      refine z_eq X 347 d_R_multiply_340 (by decide) (fun q => absurd ((h325).symm.trans q) (by decide)) (fun _ => ?_)
                      refine g_iconst X (v := nI 0) d_R_multiply_343 (by decide) ?_
                      refine g_goto X 354 d_R_multiply_344 (by decide) ?_
                      exact g_iret X KOk.n d_R_multiply_354 (Or.inl ⟨h325, rfl, rfl⟩)
                  · refine g_aload_n X 0 d_R_multiply_313 rfl rfl ?_
                    refine g_iload_n X 1 d_R_multiply_314 rfl rfl ?_
                    refine g_iload X d_R_multiply_315 rfl ?_
                    refine g_VN1 X v_R_90 (q0 := 0) rfl (ci := 2) rfl (c_R_join htr hi hto hk) d_R_multiply_317 rfl ?_ ?_
                    · exact ⟨Nat.le_of_ble_eq_true rfl, Nat.le_of_ble_eq_true rfl, Nat.le_of_ble_eq_true rfl, Nat.le_of_ble_eq_true rfl⟩
                    have ew : (mrS s to a c k hw mk (bgS w)) = joS s to k (fl (mri s a c k (s.2.1 c) mk) 0 (s.1 a) (bgS w)) := by
                      unfold mrS
                      rw [if_pos (by omega)]
                    rw [← ew]
                    refine g_aload_n X 0 d_R_multiply_320 rfl rfl ?_
                    refine g_aload_n X 0 d_R_multiply_321 rfl rfl ?_
                    refine q_far X d_R_multiply_322 ?_
                    refine z_eq X 332 d_R_multiply_325 (by decide) (fun h325 => ?_) (fun h325 => ?_)
                    · refine g_iconst X (v := nI 0) d_R_multiply_332 (by decide) ?_
                      refine p_thrown X hi d_R_multiply_333 ?_
                      refine g_aload_n X 0 d_R_multiply_336 rfl rfl ?_
                      refine q_far X d_R_multiply_337 ?_
                      refine z_eq X 347 d_R_multiply_340 (by decide) (fun _ => ?_) (fun q => absurd ((h325).symm.trans q) (by decide))
                      refine g_aload_n X 0 d_R_multiply_347 rfl rfl ?_
                      refine g_iload_n X 1 d_R_multiply_348 rfl rfl ?_
                      refine g_iload X d_R_multiply_349 rfl ?_
                      refine g_VN1 X v_R_93 (q0 := 0) rfl (ci := 2) rfl (c_R_finish htr hi hto) d_R_multiply_351 rfl ?_ ?_
                      · exact ⟨Nat.le_of_ble_eq_true rfl, Nat.le_of_ble_eq_true rfl, Nat.le_of_ble_eq_true rfl, Nat.le_of_ble_eq_true rfl⟩
                      exact g_iret X KOk.n d_R_multiply_354 (Or.inr ⟨h325, rfl, rfl⟩)
                    · refine g_iconst X (v := nI 3) d_R_multiply_328 (by decide) ?_
                      refine g_goto X 333 d_R_multiply_329 (by decide) ?_
                      refine p_thrown X hi d_R_multiply_333 ?_
                      refine g_aload_n X 0 d_R_multiply_336 rfl rfl ?_
                      refine q_far X d_R_multiply_337 ?_
                      refine z_eq X 347 d_R_multiply_340 (by decide) (fun q => absurd ((h325).symm.trans q) (by decide)) (fun _ => ?_)
                      refine g_iconst X (v := nI 0) d_R_multiply_343 (by decide) ?_
                      refine g_goto X 354 d_R_multiply_344 (by decide) ?_
                      exact g_iret X KOk.n d_R_multiply_354 (Or.inl ⟨h325, rfl, rfl⟩)
                · refine g_aload_n X 0 d_R_multiply_143 rfl rfl ?_
                  refine q_rows X d_R_multiply_144 ?_
                  refine g_iload_n X 1 d_R_multiply_147 rfl rfl ?_
                  refine a_rows X (by omega) d_R_multiply_148 ?_
                  refine g_aload_n X 0 d_R_multiply_149 rfl rfl ?_
                  refine q_rows X d_R_multiply_150 ?_
                  refine g_iload_n X 2 d_R_multiply_153 rfl rfl ?_
                  refine a_rows X (by omega) d_R_multiply_154 ?_
                  refine n_ne X 177 d_R_multiply_155 (by decide) (by omega) (by omega) (fun h155 => ?_) (fun h155 => ?_)
                  · rcases hf3 with q | q
                    · exact absurd h140 q
                    · exact absurd q.1 h155
                  · refine g_aload_n X 0 d_R_multiply_158 rfl rfl ?_
                    refine q_columns X d_R_multiply_159 ?_
                    refine g_iload_n X 1 d_R_multiply_162 rfl rfl ?_
                    refine a_columns X (by omega) d_R_multiply_163 ?_
                    refine g_aload_n X 0 d_R_multiply_164 rfl rfl ?_
                    refine q_columns X d_R_multiply_165 ?_
                    refine g_iload_n X 3 d_R_multiply_168 rfl rfl ?_
                    refine a_columns X (by omega) d_R_multiply_169 ?_
                    refine n_ne X 177 d_R_multiply_170 (by decide) (by omega) (by omega) (fun h170 => ?_) (fun h170 => ?_)
                    · rcases hf3 with q | q
                      · exact absurd h140 q
                      · exact absurd q.2 h170
                    · refine g_iconst X (v := nI 1) d_R_multiply_173 (by decide) ?_
                      refine g_goto X 178 d_R_multiply_174 (by decide) ?_
                      refine g_istore X d_R_multiply_178 (by decide) ?_
                      refine g_aload_n X 0 d_R_multiply_180 rfl rfl ?_
                      refine g_iload X d_R_multiply_181 rfl ?_
                      refine g_if_eq X 190 d_R_multiply_183 (by decide) (fun q => absurd q (by decide)) (fun _ => ?_)
                      refine g_iconst X (v := nI 0) d_R_multiply_186 (by decide) ?_
                      refine g_goto X 191 d_R_multiply_187 (by decide) ?_
                      refine p_thrown X hi d_R_multiply_191 ?_
                      refine g_aload_n X 0 d_R_multiply_194 rfl rfl ?_
                      refine q_thrown X d_R_multiply_195 ?_
                      refine g_if_le X 203 d_R_multiply_198 (by decide) (fun _ => ?_) (fun q => absurd q (by decide))
                      refine g_aload_n X 0 d_R_multiply_203 rfl rfl ?_
                      refine g_aload_n X 0 d_R_multiply_204 rfl rfl ?_
                      refine q_rows X d_R_multiply_205 ?_
                      refine g_iload_n X 2 d_R_multiply_208 rfl rfl ?_
                      refine a_rows X (by omega) d_R_multiply_209 ?_
                      refine g_aload_n X 0 d_R_multiply_210 rfl rfl ?_
                      refine q_columns X d_R_multiply_211 ?_
                      refine g_iload_n X 3 d_R_multiply_214 rfl rfl ?_
                      refine a_columns X (by omega) d_R_multiply_215 ?_
                      refine g_VN1 X v_R_82 (q0 := 0) rfl (ci := 2) rfl (c_R_begin htr hi) d_R_multiply_216 rfl ?_ ?_
                      · exact ⟨Nat.le_of_ble_eq_true rfl, Nat.le_of_ble_eq_true rfl, Nat.le_of_ble_eq_true rfl, Nat.le_of_ble_eq_true rfl⟩
                      refine g_iconst X (v := nI 0) d_R_multiply_219 (by decide) ?_
                      refine g_istore X d_R_multiply_220 (by decide) ?_
                      refine g_sb (l_R_mul_i X htr hi hto ha hc hk hhw (by omega) (by omega) (by omega) hmk (s.1 a) 0 (bgS w) (by omega) ?_) ⟨rfl, rfl, rfl, rfl, rfl, rfl, rfl, rfl, trivial⟩
                      refine g_iload X d_R_multiply_307 rfl ?_
                      refine g_iconst X (v := nI 1) d_R_multiply_309 (by decide) ?_
                      refine n_le X 320 d_R_multiply_310 (by decide) (by omega) (by omega) (fun h310 => ?_) (fun h310 => ?_)
                      · have ew : (mrS s to a c k hw mk (bgS w)) = fl (mri s a c k (s.2.1 c) mk) 0 (s.1 a) (bgS w) := by
                          unfold mrS
                          rw [if_neg (by omega)]
                        rw [← ew]
                        refine g_aload_n X 0 d_R_multiply_320 rfl rfl ?_
                        refine g_aload_n X 0 d_R_multiply_321 rfl rfl ?_
                        refine q_far X d_R_multiply_322 ?_
                        refine z_eq X 332 d_R_multiply_325 (by decide) (fun h325 => ?_) (fun h325 => ?_)
                        · refine g_iconst X (v := nI 0) d_R_multiply_332 (by decide) ?_
                          refine p_thrown X hi d_R_multiply_333 ?_
                          refine g_aload_n X 0 d_R_multiply_336 rfl rfl ?_
                          refine q_far X d_R_multiply_337 ?_
                          refine z_eq X 347 d_R_multiply_340 (by decide) (fun _ => ?_) (fun q => absurd ((h325).symm.trans q) (by decide))
                          refine g_aload_n X 0 d_R_multiply_347 rfl rfl ?_
                          refine g_iload_n X 1 d_R_multiply_348 rfl rfl ?_
                          refine g_iload X d_R_multiply_349 rfl ?_
                          refine g_VN1 X v_R_93 (q0 := 0) rfl (ci := 2) rfl (c_R_finish htr hi hto) d_R_multiply_351 rfl ?_ ?_
                          · exact ⟨Nat.le_of_ble_eq_true rfl, Nat.le_of_ble_eq_true rfl, Nat.le_of_ble_eq_true rfl, Nat.le_of_ble_eq_true rfl⟩
                          exact g_iret X KOk.n d_R_multiply_354 (Or.inr ⟨h325, rfl, rfl⟩)
                        · refine g_iconst X (v := nI 3) d_R_multiply_328 (by decide) ?_
                          refine g_goto X 333 d_R_multiply_329 (by decide) ?_
                          refine p_thrown X hi d_R_multiply_333 ?_
                          refine g_aload_n X 0 d_R_multiply_336 rfl rfl ?_
                          refine q_far X d_R_multiply_337 ?_
                          refine z_eq X 347 d_R_multiply_340 (by decide) (fun q => absurd ((h325).symm.trans q) (by decide)) (fun _ => ?_)
                          refine g_iconst X (v := nI 0) d_R_multiply_343 (by decide) ?_
                          refine g_goto X 354 d_R_multiply_344 (by decide) ?_
                          exact g_iret X KOk.n d_R_multiply_354 (Or.inl ⟨h325, rfl, rfl⟩)
                      · refine g_aload_n X 0 d_R_multiply_313 rfl rfl ?_
                        refine g_iload_n X 1 d_R_multiply_314 rfl rfl ?_
                        refine g_iload X d_R_multiply_315 rfl ?_
                        refine g_VN1 X v_R_90 (q0 := 0) rfl (ci := 2) rfl (c_R_join htr hi hto hk) d_R_multiply_317 rfl ?_ ?_
                        · exact ⟨Nat.le_of_ble_eq_true rfl, Nat.le_of_ble_eq_true rfl, Nat.le_of_ble_eq_true rfl, Nat.le_of_ble_eq_true rfl⟩
                        have ew : (mrS s to a c k hw mk (bgS w)) = joS s to k (fl (mri s a c k (s.2.1 c) mk) 0 (s.1 a) (bgS w)) := by
                          unfold mrS
                          rw [if_pos (by omega)]
                        rw [← ew]
                        refine g_aload_n X 0 d_R_multiply_320 rfl rfl ?_
                        refine g_aload_n X 0 d_R_multiply_321 rfl rfl ?_
                        refine q_far X d_R_multiply_322 ?_
                        refine z_eq X 332 d_R_multiply_325 (by decide) (fun h325 => ?_) (fun h325 => ?_)
                        · refine g_iconst X (v := nI 0) d_R_multiply_332 (by decide) ?_
                          refine p_thrown X hi d_R_multiply_333 ?_
                          refine g_aload_n X 0 d_R_multiply_336 rfl rfl ?_
                          refine q_far X d_R_multiply_337 ?_
                          refine z_eq X 347 d_R_multiply_340 (by decide) (fun _ => ?_) (fun q => absurd ((h325).symm.trans q) (by decide))
                          refine g_aload_n X 0 d_R_multiply_347 rfl rfl ?_
                          refine g_iload_n X 1 d_R_multiply_348 rfl rfl ?_
                          refine g_iload X d_R_multiply_349 rfl ?_
                          refine g_VN1 X v_R_93 (q0 := 0) rfl (ci := 2) rfl (c_R_finish htr hi hto) d_R_multiply_351 rfl ?_ ?_
                          · exact ⟨Nat.le_of_ble_eq_true rfl, Nat.le_of_ble_eq_true rfl, Nat.le_of_ble_eq_true rfl, Nat.le_of_ble_eq_true rfl⟩
                          exact g_iret X KOk.n d_R_multiply_354 (Or.inr ⟨h325, rfl, rfl⟩)
                        · refine g_iconst X (v := nI 3) d_R_multiply_328 (by decide) ?_
                          refine g_goto X 333 d_R_multiply_329 (by decide) ?_
                          refine p_thrown X hi d_R_multiply_333 ?_
                          refine g_aload_n X 0 d_R_multiply_336 rfl rfl ?_
                          refine q_far X d_R_multiply_337 ?_
                          refine z_eq X 347 d_R_multiply_340 (by decide) (fun q => absurd ((h325).symm.trans q) (by decide)) (fun _ => ?_)
                          refine g_iconst X (v := nI 0) d_R_multiply_343 (by decide) ?_
                          refine g_goto X 354 d_R_multiply_344 (by decide) ?_
                          exact g_iret X KOk.n d_R_multiply_354 (Or.inl ⟨h325, rfl, rfl⟩)
def fiT (s : SS) (to a c hw : Nat) (mv : Int32) : Prop := s.2.1 a = s.1 c ∧ (mv = -1 ∨ ∃ m, m < 6 ∧ mv = nI m ∧ s.1 m = s.1 a ∧ s.2.1 m = s.2.1 c) ∧ (¬ 2 ≤ hw ∨ (s.1 to = s.1 a ∧ s.2.1 to = s.2.1 c))
set_option maxHeartbeats 4000000 in
set_option maxRecDepth 100000 in
theorem c_R_multiply_x2 {l : Launch} (htr : l.stackTraces = false) {δ : EX} {b : Nat → Nat} (hi : In7 b) {th wd hg : Nat} {s : SS} {w : WS} {to a c k hw : Nat} {mv : Int32} (hto : to < 6) (ha : a < 6) (hc : c < 6) (hk : k < 4) (hhw : hw ≤ 3) (h8 : ∀ r, r < 6 → s.1 r ≤ 8 ∧ s.2.1 r ≤ 8) (hmv : mv = -1 ∨ ∃ m, m < 6 ∧ mv = nI m) (hf : ¬ fiT s to a c hw mv) : CTN l y_R_multiply cw_R_multiply (RM 3) δ (Br b) (rl δ b th wd hg s w) [.ref (b 0), .int (nI to), .int (nI a), .int (nI c), .int (nI k), .int mv, .int (nI hw)] (some (.int 0)) (rl δ b 2 wd hg s w) := by
  refine CT.ofN (lv := [(0, .ref (b 0)), (1, .int (nI to)), (2, .int (nI a)), (3, .int (nI c)), (4, .int (nI k)), (5, .int mv), (6, .int (nI hw))]) (Or.inl ⟨rfl, rfl⟩) (by decide) htr rfl (Nat.le_of_ble_eq_true rfl) (fun κ hl X => ?_)
  subst hl
  rcases hmv with rfl | ⟨m, hm, rfl⟩
  · refine g_iload_n X 1 d_R_multiply_0 rfl rfl ?_
    refine g_SP X KOk.n s_R_38 (c_R_isReg htr hto) d_R_multiply_1 rfl ?_ ?_
    · exact ⟨Nat.le_of_ble_eq_true rfl, Nat.le_of_ble_eq_true rfl, Nat.le_of_ble_eq_true rfl, Nat.le_of_ble_eq_true rfl⟩
    refine g_if_eq X 58 d_R_multiply_4 (by decide) (fun q => absurd q (by decide)) (fun _ => ?_)
    refine g_iload_n X 2 d_R_multiply_7 rfl rfl ?_
    refine g_SP X KOk.n s_R_38 (c_R_isReg htr ha) d_R_multiply_8 rfl ?_ ?_
    · exact ⟨Nat.le_of_ble_eq_true rfl, Nat.le_of_ble_eq_true rfl, Nat.le_of_ble_eq_true rfl, Nat.le_of_ble_eq_true rfl⟩
    refine g_if_eq X 58 d_R_multiply_11 (by decide) (fun q => absurd q (by decide)) (fun _ => ?_)
    refine g_iload_n X 3 d_R_multiply_14 rfl rfl ?_
    refine g_SP X KOk.n s_R_38 (c_R_isReg htr hc) d_R_multiply_15 rfl ?_ ?_
    · exact ⟨Nat.le_of_ble_eq_true rfl, Nat.le_of_ble_eq_true rfl, Nat.le_of_ble_eq_true rfl, Nat.le_of_ble_eq_true rfl⟩
    refine g_if_eq X 58 d_R_multiply_18 (by decide) (fun q => absurd q (by decide)) (fun _ => ?_)
    refine g_iload X d_R_multiply_21 rfl ?_
    refine g_SP X KOk.n s_R_79 (c_R_isRing htr hk) d_R_multiply_23 rfl ?_ ?_
    · exact ⟨Nat.le_of_ble_eq_true rfl, Nat.le_of_ble_eq_true rfl, Nat.le_of_ble_eq_true rfl, Nat.le_of_ble_eq_true rfl⟩
    refine g_if_eq X 58 d_R_multiply_26 (by decide) (fun q => absurd q (by decide)) (fun _ => ?_)
    refine g_iload X d_R_multiply_29 rfl ?_
    refine g_iconst X (v := (-1)) d_R_multiply_31 (by decide) ?_
    refine g_icmp_eq X 43 d_R_multiply_32 (by decide) (fun _ => ?_) (fun q => absurd q (by decide))
    refine g_iload X d_R_multiply_43 rfl ?_
    refine n_zl X 58 d_R_multiply_45 (by decide) (by omega) ?_
    refine g_iload X d_R_multiply_48 rfl ?_
    refine g_iconst X (v := nI 3) d_R_multiply_50 (by decide) ?_
    refine n_gt X 58 d_R_multiply_51 (by decide) (by omega) (by omega) (fun h51 => ?_) (fun h51 => ?_)
    · exact absurd h51 (by omega)
    · refine g_iconst X (v := nI 1) d_R_multiply_54 (by decide) ?_
      refine g_goto X 59 d_R_multiply_55 (by decide) ?_
      refine g_istore X d_R_multiply_59 (by decide) ?_
      refine g_aload_n X 0 d_R_multiply_61 rfl rfl ?_
      refine g_iload X d_R_multiply_62 rfl ?_
      refine g_if_eq X 71 d_R_multiply_64 (by decide) (fun q => absurd q (by decide)) (fun _ => ?_)
      refine g_iconst X (v := nI 0) d_R_multiply_67 (by decide) ?_
      refine g_goto X 72 d_R_multiply_68 (by decide) ?_
      refine p_thrown X hi d_R_multiply_72 ?_
      refine g_aload_n X 0 d_R_multiply_75 rfl rfl ?_
      refine q_thrown X d_R_multiply_76 ?_
      refine g_if_le X 84 d_R_multiply_79 (by decide) (fun _ => ?_) (fun q => absurd q (by decide))
      have q1 := h8 to hto
      have q2 := h8 a ha
      have q3 := h8 c hc
      refine g_aload_n X 0 d_R_multiply_84 rfl rfl ?_
      refine q_columns X d_R_multiply_85 ?_
      refine g_iload_n X 2 d_R_multiply_88 rfl rfl ?_
      refine a_columns X (by omega) d_R_multiply_89 ?_
      refine g_aload_n X 0 d_R_multiply_90 rfl rfl ?_
      refine q_rows X d_R_multiply_91 ?_
      refine g_iload_n X 3 d_R_multiply_94 rfl rfl ?_
      refine a_rows X (by omega) d_R_multiply_95 ?_
      refine n_ne X 177 d_R_multiply_96 (by decide) (by omega) (by omega) (fun h96 => ?_) (fun h96 => ?_)
      · refine g_iconst X (v := nI 0) d_R_multiply_177 (by decide) ?_
        refine g_istore X d_R_multiply_178 (by decide) ?_
        refine g_aload_n X 0 d_R_multiply_180 rfl rfl ?_
        refine g_iload X d_R_multiply_181 rfl ?_
        refine g_if_eq X 190 d_R_multiply_183 (by decide) (fun _ => ?_) (fun q => absurd q (by decide))
        refine g_iconst X (v := nI 2) d_R_multiply_190 (by decide) ?_
        refine p_thrown X hi d_R_multiply_191 ?_
        refine g_aload_n X 0 d_R_multiply_194 rfl rfl ?_
        refine q_thrown X d_R_multiply_195 ?_
        refine g_if_le X 203 d_R_multiply_198 (by decide) (fun q => absurd q (by decide)) (fun _ => ?_)
        refine g_iconst X (v := nI 0) d_R_multiply_201 (by decide) ?_
        exact g_iret X KOk.n d_R_multiply_202 ⟨rfl, rfl⟩
      · refine g_iload X d_R_multiply_99 rfl ?_
        refine g_iconst X (v := (-1)) d_R_multiply_101 (by decide) ?_
        refine g_icmp_eq X 137 d_R_multiply_102 (by decide) (fun _ => ?_) (fun q => absurd q (by decide))
        refine g_iload X d_R_multiply_137 rfl ?_
        refine g_iconst X (v := nI 2) d_R_multiply_139 (by decide) ?_
        refine n_lt X 173 d_R_multiply_140 (by decide) (by omega) (by omega) (fun h140 => ?_) (fun h140 => ?_)
        · exact absurd ⟨h96, Or.inl rfl, Or.inl (by omega)⟩ hf
        · refine g_aload_n X 0 d_R_multiply_143 rfl rfl ?_
          refine q_rows X d_R_multiply_144 ?_
          refine g_iload_n X 1 d_R_multiply_147 rfl rfl ?_
          refine a_rows X (by omega) d_R_multiply_148 ?_
          refine g_aload_n X 0 d_R_multiply_149 rfl rfl ?_
          refine q_rows X d_R_multiply_150 ?_
          refine g_iload_n X 2 d_R_multiply_153 rfl rfl ?_
          refine a_rows X (by omega) d_R_multiply_154 ?_
          refine n_ne X 177 d_R_multiply_155 (by decide) (by omega) (by omega) (fun h155 => ?_) (fun h155 => ?_)
          · refine g_iconst X (v := nI 0) d_R_multiply_177 (by decide) ?_
            refine g_istore X d_R_multiply_178 (by decide) ?_
            refine g_aload_n X 0 d_R_multiply_180 rfl rfl ?_
            refine g_iload X d_R_multiply_181 rfl ?_
            refine g_if_eq X 190 d_R_multiply_183 (by decide) (fun _ => ?_) (fun q => absurd q (by decide))
            refine g_iconst X (v := nI 2) d_R_multiply_190 (by decide) ?_
            refine p_thrown X hi d_R_multiply_191 ?_
            refine g_aload_n X 0 d_R_multiply_194 rfl rfl ?_
            refine q_thrown X d_R_multiply_195 ?_
            refine g_if_le X 203 d_R_multiply_198 (by decide) (fun q => absurd q (by decide)) (fun _ => ?_)
            refine g_iconst X (v := nI 0) d_R_multiply_201 (by decide) ?_
            exact g_iret X KOk.n d_R_multiply_202 ⟨rfl, rfl⟩
          · refine g_aload_n X 0 d_R_multiply_158 rfl rfl ?_
            refine q_columns X d_R_multiply_159 ?_
            refine g_iload_n X 1 d_R_multiply_162 rfl rfl ?_
            refine a_columns X (by omega) d_R_multiply_163 ?_
            refine g_aload_n X 0 d_R_multiply_164 rfl rfl ?_
            refine q_columns X d_R_multiply_165 ?_
            refine g_iload_n X 3 d_R_multiply_168 rfl rfl ?_
            refine a_columns X (by omega) d_R_multiply_169 ?_
            refine n_ne X 177 d_R_multiply_170 (by decide) (by omega) (by omega) (fun h170 => ?_) (fun h170 => ?_)
            · refine g_iconst X (v := nI 0) d_R_multiply_177 (by decide) ?_
              refine g_istore X d_R_multiply_178 (by decide) ?_
              refine g_aload_n X 0 d_R_multiply_180 rfl rfl ?_
              refine g_iload X d_R_multiply_181 rfl ?_
              refine g_if_eq X 190 d_R_multiply_183 (by decide) (fun _ => ?_) (fun q => absurd q (by decide))
              refine g_iconst X (v := nI 2) d_R_multiply_190 (by decide) ?_
              refine p_thrown X hi d_R_multiply_191 ?_
              refine g_aload_n X 0 d_R_multiply_194 rfl rfl ?_
              refine q_thrown X d_R_multiply_195 ?_
              refine g_if_le X 203 d_R_multiply_198 (by decide) (fun q => absurd q (by decide)) (fun _ => ?_)
              refine g_iconst X (v := nI 0) d_R_multiply_201 (by decide) ?_
              exact g_iret X KOk.n d_R_multiply_202 ⟨rfl, rfl⟩
            · exact absurd ⟨h96, Or.inl rfl, Or.inr ⟨h155, h170⟩⟩ hf
  · refine g_iload_n X 1 d_R_multiply_0 rfl rfl ?_
    refine g_SP X KOk.n s_R_38 (c_R_isReg htr hto) d_R_multiply_1 rfl ?_ ?_
    · exact ⟨Nat.le_of_ble_eq_true rfl, Nat.le_of_ble_eq_true rfl, Nat.le_of_ble_eq_true rfl, Nat.le_of_ble_eq_true rfl⟩
    refine g_if_eq X 58 d_R_multiply_4 (by decide) (fun q => absurd q (by decide)) (fun _ => ?_)
    refine g_iload_n X 2 d_R_multiply_7 rfl rfl ?_
    refine g_SP X KOk.n s_R_38 (c_R_isReg htr ha) d_R_multiply_8 rfl ?_ ?_
    · exact ⟨Nat.le_of_ble_eq_true rfl, Nat.le_of_ble_eq_true rfl, Nat.le_of_ble_eq_true rfl, Nat.le_of_ble_eq_true rfl⟩
    refine g_if_eq X 58 d_R_multiply_11 (by decide) (fun q => absurd q (by decide)) (fun _ => ?_)
    refine g_iload_n X 3 d_R_multiply_14 rfl rfl ?_
    refine g_SP X KOk.n s_R_38 (c_R_isReg htr hc) d_R_multiply_15 rfl ?_ ?_
    · exact ⟨Nat.le_of_ble_eq_true rfl, Nat.le_of_ble_eq_true rfl, Nat.le_of_ble_eq_true rfl, Nat.le_of_ble_eq_true rfl⟩
    refine g_if_eq X 58 d_R_multiply_18 (by decide) (fun q => absurd q (by decide)) (fun _ => ?_)
    refine g_iload X d_R_multiply_21 rfl ?_
    refine g_SP X KOk.n s_R_79 (c_R_isRing htr hk) d_R_multiply_23 rfl ?_ ?_
    · exact ⟨Nat.le_of_ble_eq_true rfl, Nat.le_of_ble_eq_true rfl, Nat.le_of_ble_eq_true rfl, Nat.le_of_ble_eq_true rfl⟩
    refine g_if_eq X 58 d_R_multiply_26 (by decide) (fun q => absurd q (by decide)) (fun _ => ?_)
    refine g_iload X d_R_multiply_29 rfl ?_
    refine g_iconst X (v := (-1)) d_R_multiply_31 (by decide) ?_
    refine g_icmp_eq X 43 d_R_multiply_32 (by decide) (fun h32 => ?_) (fun h32 => ?_)
    · exact absurd h32 (nI_m1 hm)
    · refine g_iload X d_R_multiply_35 rfl ?_
      refine g_SP X KOk.n s_R_38 (c_R_isReg htr hm) d_R_multiply_37 rfl ?_ ?_
      · exact ⟨Nat.le_of_ble_eq_true rfl, Nat.le_of_ble_eq_true rfl, Nat.le_of_ble_eq_true rfl, Nat.le_of_ble_eq_true rfl⟩
      refine g_if_eq X 58 d_R_multiply_40 (by decide) (fun q => absurd q (by decide)) (fun _ => ?_)
      refine g_iload X d_R_multiply_43 rfl ?_
      refine n_zl X 58 d_R_multiply_45 (by decide) (by omega) ?_
      refine g_iload X d_R_multiply_48 rfl ?_
      refine g_iconst X (v := nI 3) d_R_multiply_50 (by decide) ?_
      refine n_gt X 58 d_R_multiply_51 (by decide) (by omega) (by omega) (fun h51 => ?_) (fun h51 => ?_)
      · exact absurd h51 (by omega)
      · refine g_iconst X (v := nI 1) d_R_multiply_54 (by decide) ?_
        refine g_goto X 59 d_R_multiply_55 (by decide) ?_
        refine g_istore X d_R_multiply_59 (by decide) ?_
        refine g_aload_n X 0 d_R_multiply_61 rfl rfl ?_
        refine g_iload X d_R_multiply_62 rfl ?_
        refine g_if_eq X 71 d_R_multiply_64 (by decide) (fun q => absurd q (by decide)) (fun _ => ?_)
        refine g_iconst X (v := nI 0) d_R_multiply_67 (by decide) ?_
        refine g_goto X 72 d_R_multiply_68 (by decide) ?_
        refine p_thrown X hi d_R_multiply_72 ?_
        refine g_aload_n X 0 d_R_multiply_75 rfl rfl ?_
        refine q_thrown X d_R_multiply_76 ?_
        refine g_if_le X 84 d_R_multiply_79 (by decide) (fun _ => ?_) (fun q => absurd q (by decide))
        have q1 := h8 to hto
        have q2 := h8 a ha
        have q3 := h8 c hc
        have q4 := h8 m hm
        refine g_aload_n X 0 d_R_multiply_84 rfl rfl ?_
        refine q_columns X d_R_multiply_85 ?_
        refine g_iload_n X 2 d_R_multiply_88 rfl rfl ?_
        refine a_columns X (by omega) d_R_multiply_89 ?_
        refine g_aload_n X 0 d_R_multiply_90 rfl rfl ?_
        refine q_rows X d_R_multiply_91 ?_
        refine g_iload_n X 3 d_R_multiply_94 rfl rfl ?_
        refine a_rows X (by omega) d_R_multiply_95 ?_
        refine n_ne X 177 d_R_multiply_96 (by decide) (by omega) (by omega) (fun h96 => ?_) (fun h96 => ?_)
        · refine g_iconst X (v := nI 0) d_R_multiply_177 (by decide) ?_
          refine g_istore X d_R_multiply_178 (by decide) ?_
          refine g_aload_n X 0 d_R_multiply_180 rfl rfl ?_
          refine g_iload X d_R_multiply_181 rfl ?_
          refine g_if_eq X 190 d_R_multiply_183 (by decide) (fun _ => ?_) (fun q => absurd q (by decide))
          refine g_iconst X (v := nI 2) d_R_multiply_190 (by decide) ?_
          refine p_thrown X hi d_R_multiply_191 ?_
          refine g_aload_n X 0 d_R_multiply_194 rfl rfl ?_
          refine q_thrown X d_R_multiply_195 ?_
          refine g_if_le X 203 d_R_multiply_198 (by decide) (fun q => absurd q (by decide)) (fun _ => ?_)
          refine g_iconst X (v := nI 0) d_R_multiply_201 (by decide) ?_
          exact g_iret X KOk.n d_R_multiply_202 ⟨rfl, rfl⟩
        · refine g_iload X d_R_multiply_99 rfl ?_
          refine g_iconst X (v := (-1)) d_R_multiply_101 (by decide) ?_
          refine g_icmp_eq X 137 d_R_multiply_102 (by decide) (fun h102 => ?_) (fun h102 => ?_)
          · exact absurd h102 (nI_m1 hm)
          · refine g_aload_n X 0 d_R_multiply_105 rfl rfl ?_
            refine q_rows X d_R_multiply_106 ?_
            refine g_iload X d_R_multiply_109 rfl ?_
            refine a_rows X (by omega) d_R_multiply_111 ?_
            refine g_aload_n X 0 d_R_multiply_112 rfl rfl ?_
            refine q_rows X d_R_multiply_113 ?_
            refine g_iload_n X 2 d_R_multiply_116 rfl rfl ?_
            refine a_rows X (by omega) d_R_multiply_117 ?_
            refine n_ne X 177 d_R_multiply_118 (by decide) (by omega) (by omega) (fun h118 => ?_) (fun h118 => ?_)
            · refine g_iconst X (v := nI 0) d_R_multiply_177 (by decide) ?_
              refine g_istore X d_R_multiply_178 (by decide) ?_
              refine g_aload_n X 0 d_R_multiply_180 rfl rfl ?_
              refine g_iload X d_R_multiply_181 rfl ?_
              refine g_if_eq X 190 d_R_multiply_183 (by decide) (fun _ => ?_) (fun q => absurd q (by decide))
              refine g_iconst X (v := nI 2) d_R_multiply_190 (by decide) ?_
              refine p_thrown X hi d_R_multiply_191 ?_
              refine g_aload_n X 0 d_R_multiply_194 rfl rfl ?_
              refine q_thrown X d_R_multiply_195 ?_
              refine g_if_le X 203 d_R_multiply_198 (by decide) (fun q => absurd q (by decide)) (fun _ => ?_)
              refine g_iconst X (v := nI 0) d_R_multiply_201 (by decide) ?_
              exact g_iret X KOk.n d_R_multiply_202 ⟨rfl, rfl⟩
            · refine g_aload_n X 0 d_R_multiply_121 rfl rfl ?_
              refine q_columns X d_R_multiply_122 ?_
              refine g_iload X d_R_multiply_125 rfl ?_
              refine a_columns X (by omega) d_R_multiply_127 ?_
              refine g_aload_n X 0 d_R_multiply_128 rfl rfl ?_
              refine q_columns X d_R_multiply_129 ?_
              refine g_iload_n X 3 d_R_multiply_132 rfl rfl ?_
              refine a_columns X (by omega) d_R_multiply_133 ?_
              refine n_ne X 177 d_R_multiply_134 (by decide) (by omega) (by omega) (fun h134 => ?_) (fun h134 => ?_)
              · refine g_iconst X (v := nI 0) d_R_multiply_177 (by decide) ?_
                refine g_istore X d_R_multiply_178 (by decide) ?_
                refine g_aload_n X 0 d_R_multiply_180 rfl rfl ?_
                refine g_iload X d_R_multiply_181 rfl ?_
                refine g_if_eq X 190 d_R_multiply_183 (by decide) (fun _ => ?_) (fun q => absurd q (by decide))
                refine g_iconst X (v := nI 2) d_R_multiply_190 (by decide) ?_
                refine p_thrown X hi d_R_multiply_191 ?_
                refine g_aload_n X 0 d_R_multiply_194 rfl rfl ?_
                refine q_thrown X d_R_multiply_195 ?_
                refine g_if_le X 203 d_R_multiply_198 (by decide) (fun q => absurd q (by decide)) (fun _ => ?_)
                refine g_iconst X (v := nI 0) d_R_multiply_201 (by decide) ?_
                exact g_iret X KOk.n d_R_multiply_202 ⟨rfl, rfl⟩
              · refine g_iload X d_R_multiply_137 rfl ?_
                refine g_iconst X (v := nI 2) d_R_multiply_139 (by decide) ?_
                refine n_lt X 173 d_R_multiply_140 (by decide) (by omega) (by omega) (fun h140 => ?_) (fun h140 => ?_)
                · exact absurd ⟨h96, Or.inr ⟨m, hm, rfl, h118, h134⟩, Or.inl (by omega)⟩ hf
                · refine g_aload_n X 0 d_R_multiply_143 rfl rfl ?_
                  refine q_rows X d_R_multiply_144 ?_
                  refine g_iload_n X 1 d_R_multiply_147 rfl rfl ?_
                  refine a_rows X (by omega) d_R_multiply_148 ?_
                  refine g_aload_n X 0 d_R_multiply_149 rfl rfl ?_
                  refine q_rows X d_R_multiply_150 ?_
                  refine g_iload_n X 2 d_R_multiply_153 rfl rfl ?_
                  refine a_rows X (by omega) d_R_multiply_154 ?_
                  refine n_ne X 177 d_R_multiply_155 (by decide) (by omega) (by omega) (fun h155 => ?_) (fun h155 => ?_)
                  · refine g_iconst X (v := nI 0) d_R_multiply_177 (by decide) ?_
                    refine g_istore X d_R_multiply_178 (by decide) ?_
                    refine g_aload_n X 0 d_R_multiply_180 rfl rfl ?_
                    refine g_iload X d_R_multiply_181 rfl ?_
                    refine g_if_eq X 190 d_R_multiply_183 (by decide) (fun _ => ?_) (fun q => absurd q (by decide))
                    refine g_iconst X (v := nI 2) d_R_multiply_190 (by decide) ?_
                    refine p_thrown X hi d_R_multiply_191 ?_
                    refine g_aload_n X 0 d_R_multiply_194 rfl rfl ?_
                    refine q_thrown X d_R_multiply_195 ?_
                    refine g_if_le X 203 d_R_multiply_198 (by decide) (fun q => absurd q (by decide)) (fun _ => ?_)
                    refine g_iconst X (v := nI 0) d_R_multiply_201 (by decide) ?_
                    exact g_iret X KOk.n d_R_multiply_202 ⟨rfl, rfl⟩
                  · refine g_aload_n X 0 d_R_multiply_158 rfl rfl ?_
                    refine q_columns X d_R_multiply_159 ?_
                    refine g_iload_n X 1 d_R_multiply_162 rfl rfl ?_
                    refine a_columns X (by omega) d_R_multiply_163 ?_
                    refine g_aload_n X 0 d_R_multiply_164 rfl rfl ?_
                    refine q_columns X d_R_multiply_165 ?_
                    refine g_iload_n X 3 d_R_multiply_168 rfl rfl ?_
                    refine a_columns X (by omega) d_R_multiply_169 ?_
                    refine n_ne X 177 d_R_multiply_170 (by decide) (by omega) (by omega) (fun h170 => ?_) (fun h170 => ?_)
                    · refine g_iconst X (v := nI 0) d_R_multiply_177 (by decide) ?_
                      refine g_istore X d_R_multiply_178 (by decide) ?_
                      refine g_aload_n X 0 d_R_multiply_180 rfl rfl ?_
                      refine g_iload X d_R_multiply_181 rfl ?_
                      refine g_if_eq X 190 d_R_multiply_183 (by decide) (fun _ => ?_) (fun q => absurd q (by decide))
                      refine g_iconst X (v := nI 2) d_R_multiply_190 (by decide) ?_
                      refine p_thrown X hi d_R_multiply_191 ?_
                      refine g_aload_n X 0 d_R_multiply_194 rfl rfl ?_
                      refine q_thrown X d_R_multiply_195 ?_
                      refine g_if_le X 203 d_R_multiply_198 (by decide) (fun q => absurd q (by decide)) (fun _ => ?_)
                      refine g_iconst X (v := nI 0) d_R_multiply_201 (by decide) ?_
                      exact g_iret X KOk.n d_R_multiply_202 ⟨rfl, rfl⟩
                    · exact absurd ⟨h96, Or.inr ⟨m, hm, rfl, h118, h134⟩, Or.inr ⟨h155, h170⟩⟩ hf
set_option maxHeartbeats 4000000 in
set_option maxRecDepth 100000 in
theorem c_R_multiply_x1 {l : Launch} (htr : l.stackTraces = false) {δ : EX} {b : Nat → Nat} (hi : In7 b) {th wd hg : Nat} {s : SS} {w : WS} {x1 x2 x3 x4 x5 x6 : Int32} (h : bR x1 ∨ bR x2 ∨ bR x3 ∨ bH 3 x4 ∨ (¬ x5 = -1 ∧ bR x5) ∨ bH 3 x6) : CTN l y_R_multiply cw_R_multiply (RM 3) δ (Br b) (rl δ b th wd hg s w) [.ref (b 0), .int x1, .int x2, .int x3, .int x4, .int x5, .int x6] (some (.int 0)) (rl δ b 1 wd hg s w) := by
  refine CT.ofN (lv := [(0, .ref (b 0)), (1, .int x1), (2, .int x2), (3, .int x3), (4, .int x4), (5, .int x5), (6, .int x6)]) (Or.inl ⟨rfl, rfl⟩) (by decide) htr rfl (Nat.le_of_ble_eq_true rfl) (fun κ hl X => ?_)
  subst hl
  refine g_iload_n X 1 d_R_multiply_0 rfl rfl ?_
  rcases bR_or x1 with q | ⟨r1, k1, rfl⟩
  · refine g_SP X KOk.n s_R_38 (c_R_isReg_x htr q) d_R_multiply_1 rfl ?_ ?_
    · exact ⟨Nat.le_of_ble_eq_true rfl, Nat.le_of_ble_eq_true rfl, Nat.le_of_ble_eq_true rfl, Nat.le_of_ble_eq_true rfl⟩
    refine g_if_eq X 58 d_R_multiply_4 (by decide) (fun _ => ?_) (fun q => absurd q (by decide))
    refine g_iconst X (v := nI 0) d_R_multiply_58 (by decide) ?_
    refine g_istore X d_R_multiply_59 (by decide) ?_
    refine g_aload_n X 0 d_R_multiply_61 rfl rfl ?_
    refine g_iload X d_R_multiply_62 rfl ?_
    refine g_if_eq X 71 d_R_multiply_64 (by decide) (fun _ => ?_) (fun q => absurd q (by decide))
    refine g_iconst X (v := nI 1) d_R_multiply_71 (by decide) ?_
    refine p_thrown X hi d_R_multiply_72 ?_
    refine g_aload_n X 0 d_R_multiply_75 rfl rfl ?_
    refine q_thrown X d_R_multiply_76 ?_
    refine g_if_le X 84 d_R_multiply_79 (by decide) (fun q => absurd q (by decide)) (fun _ => ?_)
    refine g_iconst X (v := nI 0) d_R_multiply_82 (by decide) ?_
    exact g_iret X KOk.n d_R_multiply_83 ⟨rfl, rfl⟩
  · refine g_SP X KOk.n s_R_38 (c_R_isReg htr k1) d_R_multiply_1 rfl ?_ ?_
    · exact ⟨Nat.le_of_ble_eq_true rfl, Nat.le_of_ble_eq_true rfl, Nat.le_of_ble_eq_true rfl, Nat.le_of_ble_eq_true rfl⟩
    refine g_if_eq X 58 d_R_multiply_4 (by decide) (fun q => absurd q (by decide)) (fun _ => ?_)
    refine g_iload_n X 2 d_R_multiply_7 rfl rfl ?_
    rcases bR_or x2 with q | ⟨r2, k2, rfl⟩
    · refine g_SP X KOk.n s_R_38 (c_R_isReg_x htr q) d_R_multiply_8 rfl ?_ ?_
      · exact ⟨Nat.le_of_ble_eq_true rfl, Nat.le_of_ble_eq_true rfl, Nat.le_of_ble_eq_true rfl, Nat.le_of_ble_eq_true rfl⟩
      refine g_if_eq X 58 d_R_multiply_11 (by decide) (fun _ => ?_) (fun q => absurd q (by decide))
      refine g_iconst X (v := nI 0) d_R_multiply_58 (by decide) ?_
      refine g_istore X d_R_multiply_59 (by decide) ?_
      refine g_aload_n X 0 d_R_multiply_61 rfl rfl ?_
      refine g_iload X d_R_multiply_62 rfl ?_
      refine g_if_eq X 71 d_R_multiply_64 (by decide) (fun _ => ?_) (fun q => absurd q (by decide))
      refine g_iconst X (v := nI 1) d_R_multiply_71 (by decide) ?_
      refine p_thrown X hi d_R_multiply_72 ?_
      refine g_aload_n X 0 d_R_multiply_75 rfl rfl ?_
      refine q_thrown X d_R_multiply_76 ?_
      refine g_if_le X 84 d_R_multiply_79 (by decide) (fun q => absurd q (by decide)) (fun _ => ?_)
      refine g_iconst X (v := nI 0) d_R_multiply_82 (by decide) ?_
      exact g_iret X KOk.n d_R_multiply_83 ⟨rfl, rfl⟩
    · refine g_SP X KOk.n s_R_38 (c_R_isReg htr k2) d_R_multiply_8 rfl ?_ ?_
      · exact ⟨Nat.le_of_ble_eq_true rfl, Nat.le_of_ble_eq_true rfl, Nat.le_of_ble_eq_true rfl, Nat.le_of_ble_eq_true rfl⟩
      refine g_if_eq X 58 d_R_multiply_11 (by decide) (fun q => absurd q (by decide)) (fun _ => ?_)
      refine g_iload_n X 3 d_R_multiply_14 rfl rfl ?_
      rcases bR_or x3 with q | ⟨r3, k3, rfl⟩
      · refine g_SP X KOk.n s_R_38 (c_R_isReg_x htr q) d_R_multiply_15 rfl ?_ ?_
        · exact ⟨Nat.le_of_ble_eq_true rfl, Nat.le_of_ble_eq_true rfl, Nat.le_of_ble_eq_true rfl, Nat.le_of_ble_eq_true rfl⟩
        refine g_if_eq X 58 d_R_multiply_18 (by decide) (fun _ => ?_) (fun q => absurd q (by decide))
        refine g_iconst X (v := nI 0) d_R_multiply_58 (by decide) ?_
        refine g_istore X d_R_multiply_59 (by decide) ?_
        refine g_aload_n X 0 d_R_multiply_61 rfl rfl ?_
        refine g_iload X d_R_multiply_62 rfl ?_
        refine g_if_eq X 71 d_R_multiply_64 (by decide) (fun _ => ?_) (fun q => absurd q (by decide))
        refine g_iconst X (v := nI 1) d_R_multiply_71 (by decide) ?_
        refine p_thrown X hi d_R_multiply_72 ?_
        refine g_aload_n X 0 d_R_multiply_75 rfl rfl ?_
        refine q_thrown X d_R_multiply_76 ?_
        refine g_if_le X 84 d_R_multiply_79 (by decide) (fun q => absurd q (by decide)) (fun _ => ?_)
        refine g_iconst X (v := nI 0) d_R_multiply_82 (by decide) ?_
        exact g_iret X KOk.n d_R_multiply_83 ⟨rfl, rfl⟩
      · refine g_SP X KOk.n s_R_38 (c_R_isReg htr k3) d_R_multiply_15 rfl ?_ ?_
        · exact ⟨Nat.le_of_ble_eq_true rfl, Nat.le_of_ble_eq_true rfl, Nat.le_of_ble_eq_true rfl, Nat.le_of_ble_eq_true rfl⟩
        refine g_if_eq X 58 d_R_multiply_18 (by decide) (fun q => absurd q (by decide)) (fun _ => ?_)
        refine g_iload X d_R_multiply_21 rfl ?_
        rcases bK_or x4 with q | ⟨r4, k4, rfl⟩
        · refine g_SP X KOk.n s_R_79 (c_R_isRing_x htr q) d_R_multiply_23 rfl ?_ ?_
          · exact ⟨Nat.le_of_ble_eq_true rfl, Nat.le_of_ble_eq_true rfl, Nat.le_of_ble_eq_true rfl, Nat.le_of_ble_eq_true rfl⟩
          refine g_if_eq X 58 d_R_multiply_26 (by decide) (fun _ => ?_) (fun q => absurd q (by decide))
          refine g_iconst X (v := nI 0) d_R_multiply_58 (by decide) ?_
          refine g_istore X d_R_multiply_59 (by decide) ?_
          refine g_aload_n X 0 d_R_multiply_61 rfl rfl ?_
          refine g_iload X d_R_multiply_62 rfl ?_
          refine g_if_eq X 71 d_R_multiply_64 (by decide) (fun _ => ?_) (fun q => absurd q (by decide))
          refine g_iconst X (v := nI 1) d_R_multiply_71 (by decide) ?_
          refine p_thrown X hi d_R_multiply_72 ?_
          refine g_aload_n X 0 d_R_multiply_75 rfl rfl ?_
          refine q_thrown X d_R_multiply_76 ?_
          refine g_if_le X 84 d_R_multiply_79 (by decide) (fun q => absurd q (by decide)) (fun _ => ?_)
          refine g_iconst X (v := nI 0) d_R_multiply_82 (by decide) ?_
          exact g_iret X KOk.n d_R_multiply_83 ⟨rfl, rfl⟩
        · refine g_SP X KOk.n s_R_79 (c_R_isRing htr k4) d_R_multiply_23 rfl ?_ ?_
          · exact ⟨Nat.le_of_ble_eq_true rfl, Nat.le_of_ble_eq_true rfl, Nat.le_of_ble_eq_true rfl, Nat.le_of_ble_eq_true rfl⟩
          refine g_if_eq X 58 d_R_multiply_26 (by decide) (fun q => absurd q (by decide)) (fun _ => ?_)
          refine g_iload X d_R_multiply_29 rfl ?_
          refine g_iconst X (v := (-1)) d_R_multiply_31 (by decide) ?_
          refine g_icmp_eq X 43 d_R_multiply_32 (by decide) (fun h32 => ?_) (fun h32 => ?_)
          · refine g_iload X d_R_multiply_43 rfl ?_
            refine g_if_lt X 58 d_R_multiply_45 (by decide) (fun h45 => ?_) (fun h45 => ?_)
            · refine g_iconst X (v := nI 0) d_R_multiply_58 (by decide) ?_
              refine g_istore X d_R_multiply_59 (by decide) ?_
              refine g_aload_n X 0 d_R_multiply_61 rfl rfl ?_
              refine g_iload X d_R_multiply_62 rfl ?_
              refine g_if_eq X 71 d_R_multiply_64 (by decide) (fun _ => ?_) (fun q => absurd q (by decide))
              refine g_iconst X (v := nI 1) d_R_multiply_71 (by decide) ?_
              refine p_thrown X hi d_R_multiply_72 ?_
              refine g_aload_n X 0 d_R_multiply_75 rfl rfl ?_
              refine q_thrown X d_R_multiply_76 ?_
              refine g_if_le X 84 d_R_multiply_79 (by decide) (fun q => absurd q (by decide)) (fun _ => ?_)
              refine g_iconst X (v := nI 0) d_R_multiply_82 (by decide) ?_
              exact g_iret X KOk.n d_R_multiply_83 ⟨rfl, rfl⟩
            · refine g_iload X d_R_multiply_48 rfl ?_
              refine g_iconst X (v := nI 3) d_R_multiply_50 (by decide) ?_
              refine g_icmp_gt X 58 d_R_multiply_51 (by decide) (fun h51 => ?_) (fun h51 => ?_)
              · refine g_iconst X (v := nI 0) d_R_multiply_58 (by decide) ?_
                refine g_istore X d_R_multiply_59 (by decide) ?_
                refine g_aload_n X 0 d_R_multiply_61 rfl rfl ?_
                refine g_iload X d_R_multiply_62 rfl ?_
                refine g_if_eq X 71 d_R_multiply_64 (by decide) (fun _ => ?_) (fun q => absurd q (by decide))
                refine g_iconst X (v := nI 1) d_R_multiply_71 (by decide) ?_
                refine p_thrown X hi d_R_multiply_72 ?_
                refine g_aload_n X 0 d_R_multiply_75 rfl rfl ?_
                refine q_thrown X d_R_multiply_76 ?_
                refine g_if_le X 84 d_R_multiply_79 (by decide) (fun q => absurd q (by decide)) (fun _ => ?_)
                refine g_iconst X (v := nI 0) d_R_multiply_82 (by decide) ?_
                exact g_iret X KOk.n d_R_multiply_83 ⟨rfl, rfl⟩
              · exact absurd h (by
                  rintro (q | q | q | q | q | q | q)
                  · exact bR_no k1 q
                  · exact bR_no k2 q
                  · exact bR_no k3 q
                  · exact bK_no k4 q
                  · exact q.1 h32
                  · exact h45 q
                  · exact h51 q)
          · refine g_iload X d_R_multiply_35 rfl ?_
            rcases bR_or x5 with q | ⟨r5, k5, rfl⟩
            · refine g_SP X KOk.n s_R_38 (c_R_isReg_x htr q) d_R_multiply_37 rfl ?_ ?_
              · exact ⟨Nat.le_of_ble_eq_true rfl, Nat.le_of_ble_eq_true rfl, Nat.le_of_ble_eq_true rfl, Nat.le_of_ble_eq_true rfl⟩
              refine g_if_eq X 58 d_R_multiply_40 (by decide) (fun _ => ?_) (fun q => absurd q (by decide))
              refine g_iconst X (v := nI 0) d_R_multiply_58 (by decide) ?_
              refine g_istore X d_R_multiply_59 (by decide) ?_
              refine g_aload_n X 0 d_R_multiply_61 rfl rfl ?_
              refine g_iload X d_R_multiply_62 rfl ?_
              refine g_if_eq X 71 d_R_multiply_64 (by decide) (fun _ => ?_) (fun q => absurd q (by decide))
              refine g_iconst X (v := nI 1) d_R_multiply_71 (by decide) ?_
              refine p_thrown X hi d_R_multiply_72 ?_
              refine g_aload_n X 0 d_R_multiply_75 rfl rfl ?_
              refine q_thrown X d_R_multiply_76 ?_
              refine g_if_le X 84 d_R_multiply_79 (by decide) (fun q => absurd q (by decide)) (fun _ => ?_)
              refine g_iconst X (v := nI 0) d_R_multiply_82 (by decide) ?_
              exact g_iret X KOk.n d_R_multiply_83 ⟨rfl, rfl⟩
            · refine g_SP X KOk.n s_R_38 (c_R_isReg htr k5) d_R_multiply_37 rfl ?_ ?_
              · exact ⟨Nat.le_of_ble_eq_true rfl, Nat.le_of_ble_eq_true rfl, Nat.le_of_ble_eq_true rfl, Nat.le_of_ble_eq_true rfl⟩
              refine g_if_eq X 58 d_R_multiply_40 (by decide) (fun q => absurd q (by decide)) (fun _ => ?_)
              refine g_iload X d_R_multiply_43 rfl ?_
              refine g_if_lt X 58 d_R_multiply_45 (by decide) (fun h45 => ?_) (fun h45 => ?_)
              · refine g_iconst X (v := nI 0) d_R_multiply_58 (by decide) ?_
                refine g_istore X d_R_multiply_59 (by decide) ?_
                refine g_aload_n X 0 d_R_multiply_61 rfl rfl ?_
                refine g_iload X d_R_multiply_62 rfl ?_
                refine g_if_eq X 71 d_R_multiply_64 (by decide) (fun _ => ?_) (fun q => absurd q (by decide))
                refine g_iconst X (v := nI 1) d_R_multiply_71 (by decide) ?_
                refine p_thrown X hi d_R_multiply_72 ?_
                refine g_aload_n X 0 d_R_multiply_75 rfl rfl ?_
                refine q_thrown X d_R_multiply_76 ?_
                refine g_if_le X 84 d_R_multiply_79 (by decide) (fun q => absurd q (by decide)) (fun _ => ?_)
                refine g_iconst X (v := nI 0) d_R_multiply_82 (by decide) ?_
                exact g_iret X KOk.n d_R_multiply_83 ⟨rfl, rfl⟩
              · refine g_iload X d_R_multiply_48 rfl ?_
                refine g_iconst X (v := nI 3) d_R_multiply_50 (by decide) ?_
                refine g_icmp_gt X 58 d_R_multiply_51 (by decide) (fun h51 => ?_) (fun h51 => ?_)
                · refine g_iconst X (v := nI 0) d_R_multiply_58 (by decide) ?_
                  refine g_istore X d_R_multiply_59 (by decide) ?_
                  refine g_aload_n X 0 d_R_multiply_61 rfl rfl ?_
                  refine g_iload X d_R_multiply_62 rfl ?_
                  refine g_if_eq X 71 d_R_multiply_64 (by decide) (fun _ => ?_) (fun q => absurd q (by decide))
                  refine g_iconst X (v := nI 1) d_R_multiply_71 (by decide) ?_
                  refine p_thrown X hi d_R_multiply_72 ?_
                  refine g_aload_n X 0 d_R_multiply_75 rfl rfl ?_
                  refine q_thrown X d_R_multiply_76 ?_
                  refine g_if_le X 84 d_R_multiply_79 (by decide) (fun q => absurd q (by decide)) (fun _ => ?_)
                  refine g_iconst X (v := nI 0) d_R_multiply_82 (by decide) ?_
                  exact g_iret X KOk.n d_R_multiply_83 ⟨rfl, rfl⟩
                · exact absurd h (by
                    rintro (q | q | q | q | q | q | q)
                    · exact bR_no k1 q
                    · exact bR_no k2 q
                    · exact bR_no k3 q
                    · exact bK_no k4 q
                    · exact bR_no k5 q.2
                    · exact h45 q
                    · exact h51 q)
set_option maxHeartbeats 4000000 in
set_option maxRecDepth 100000 in
theorem c_R_isSq {l : Launch} (htr : l.stackTraces = false) {δ : EX} {b : Nat → Nat} {th wd hg : Nat} {s : SS} {w : WS} {a : Nat} (ha : a < 6) (h8 : ∀ r, r < 6 → s.1 r ≤ 8 ∧ s.2.1 r ≤ 8) : CTP l y_R_isSquare cw_R_isSquare (RM 0) δ (rl δ b th wd hg s w) [.ref (b 0), .int (nI a)] (.inr (some (.int (b2 (decide (s.1 a = s.2.1 a)))))) := by
  refine CT.ofP (lv := [(0, .ref (b 0)), (1, .int (nI a))]) (Or.inl ⟨rfl, rfl⟩) (by decide) htr rfl (Nat.le_of_ble_eq_true rfl) (fun κ hl X => ?_)
  subst hl
  refine g_aload_n X 0 d_R_isSquare_0 rfl rfl ?_
  refine q_rows X d_R_isSquare_1 ?_
  refine g_iload_n X 1 d_R_isSquare_4 rfl rfl ?_
  refine a_rows X (by omega) d_R_isSquare_5 ?_
  refine g_aload_n X 0 d_R_isSquare_6 rfl rfl ?_
  refine q_columns X d_R_isSquare_7 ?_
  refine g_iload_n X 1 d_R_isSquare_10 rfl rfl ?_
  refine a_columns X (by omega) d_R_isSquare_11 ?_
  have q8 := h8 a ha
  refine n_ne X 19 d_R_isSquare_12 (by decide) (by omega) (by omega) (fun h12 => ?_) (fun h12 => ?_)
  · refine g_iconst X (v := nI 0) d_R_isSquare_19 (by decide) ?_
    exact g_zret X KOk.p (by decide) d_R_isSquare_20 ⟨by simp [h12]; rfl, rfl⟩
  · refine g_iconst X (v := nI 1) d_R_isSquare_15 (by decide) ?_
    refine g_goto X 20 d_R_isSquare_16 (by decide) ?_
    exact g_zret X KOk.p (by decide) d_R_isSquare_20 ⟨by simp [h12]; rfl, rfl⟩
theorem c_R_isSq_t {l : Launch} (htr : l.stackTraces = false) {δ : EX} {b : Nat → Nat} {th wd hg : Nat} {s : SS} {w : WS} {a : Nat} (ha : a < 6) (h8 : ∀ r, r < 6 → s.1 r ≤ 8 ∧ s.2.1 r ≤ 8) (h : s.1 a = s.2.1 a) : CTP l y_R_isSquare cw_R_isSquare (RM 0) δ (rl δ b th wd hg s w) [.ref (b 0), .int (nI a)] (.inr (some (.int (b2 true)))) := by
  have := c_R_isSq htr (δ := δ) (b := b) (th := th) (wd := wd) (hg := hg) (s := s) (w := w) ha h8
  rw [decide_eq_true h] at this
  exact this
theorem c_R_isSq_f {l : Launch} (htr : l.stackTraces = false) {δ : EX} {b : Nat → Nat} {th wd hg : Nat} {s : SS} {w : WS} {a : Nat} (ha : a < 6) (h8 : ∀ r, r < 6 → s.1 r ≤ 8 ∧ s.2.1 r ≤ 8) (h : ¬ s.1 a = s.2.1 a) : CTP l y_R_isSquare cw_R_isSquare (RM 0) δ (rl δ b th wd hg s w) [.ref (b 0), .int (nI a)] (.inr (some (.int (b2 false)))) := by
  have := c_R_isSq htr (δ := δ) (b := b) (th := th) (wd := wd) (hg := hg) (s := s) (w := w) ha h8
  rw [decide_eq_false h] at this
  exact this
def vrj (s : SS) (a r i j : Nat) (w : WS) : WS := if w.2.1 i = true ∧ w.2.2 i = lN r ∧ s.2.2.1 (64 * a + 8 * i + j) = true ∧ w.2.1 j = false then mkS w j (lN (r + 1)) else w
def vri (s : SS) (a wd r i : Nat) (w : WS) : WS := fl (vrj s a r i) 0 wd w
def vrr (s : SS) (a wd r : Nat) (w : WS) : WS := fl (vri s a wd r) 0 wd w
def vrS (s : SS) (a so : Nat) (w : WS) : WS := fl (vrr s a (s.2.1 a)) 0 8 (mkS w so 0)
theorem mk0 {w : WS} {j : Nat} {v : Int64} : mkS w (8 * 0 + j) v = mkS w j v := by rw [Nat.mul_zero, Nat.zero_add]
set_option maxHeartbeats 4000000 in
set_option maxRecDepth 100000 in
theorem l_R_lev_j {κ : KX} {δ : EX} {b : Nat → Nat} {th wd hg : Nat} {P : OC → va_W → Prop} (X : XO κ R_R b_R_levels 7 (some .int) δ (RM 2) (Br b) []) (htr : (xl κ).stackTraces = false) (hi : In7 b) {s : SS} {to a : Nat} (hto : to < 6) (ha : a < 6) (h8 : wd ≤ 8) {rr ii : Nat} (hr : rr < 8) (hii : ii < wd) : ∀ (n i : Nat) (w : WS), i + n = wd → G κ 7 δ (Kn κ (Br b)) (Qe κ δ (Br b) P) 0 0 (rl δ b th wd hg s (fl (vrj s a rr ii) i n w)) [(0, .ref (b 0)), (1, .int (nI to)), (2, .int (nI a)), (4, .int (nI rr)), (5, .int (nI ii))] [] 187 → G κ 7 δ (Kn κ (Br b)) (Qe κ δ (Br b) P) 0 0 (rl δ b th wd hg s w) [(0, .ref (b 0)), (1, .int (nI to)), (2, .int (nI a)), (4, .int (nI rr)), (5, .int (nI ii)), (6, .int (nI (i)))] [] 105 := by
  intro n
  induction n with
  | zero =>
    intro i w h hx
    refine g_iload X d_R_levels_105 rfl ?_
    refine g_aload_n X 0 d_R_levels_107 rfl rfl ?_
    refine q_wide X d_R_levels_108 ?_
    refine n_ge X 187 d_R_levels_111 (by decide) (by omega) (by omega) (fun h111 => ?_) (fun h111 => ?_)
    · exact g_sb hx ⟨rfl, rfl, rfl, rfl, rfl, trivial⟩
    · exact absurd h111 (by omega)
  | succ n ih =>
    intro i w h hx
    refine g_iload X d_R_levels_105 rfl ?_
    refine g_aload_n X 0 d_R_levels_107 rfl rfl ?_
    refine q_wide X d_R_levels_108 ?_
    refine n_ge X 187 d_R_levels_111 (by decide) (by omega) (by omega) (fun h111 => ?_) (fun h111 => ?_)
    · exact absurd h111 (by omega)
    · refine g_aload_n X 0 d_R_levels_114 rfl rfl ?_
      refine q_there X d_R_levels_115 ?_
      refine g_iload X d_R_levels_118 rfl ?_
      refine a_there X (by omega) d_R_levels_120 ?_
      refine z_eq X 181 d_R_levels_121 (by decide) (fun h121 => ?_) (fun h121 => ?_)
      · refine g_iinc X d_R_levels_181 rfl (nI_1 _) (by decide) ?_
        refine g_goto X 105 d_R_levels_184 (by decide) ?_
        exact g_sb (ih (i + 1) _ (by omega) (g_fl (wf := fun z => (rl δ b th wd hg s z)) (lf := fun z => [(0, .ref (b 0)), (1, .int (nI to)), (2, .int (nI a)), (4, .int (nI rr)), (5, .int (nI ii))]) (F := vrj s a rr ii) (by simp [vrj, mk0, h121]) hx)) ⟨rfl, rfl, rfl, rfl, rfl, rfl, trivial⟩
      · refine g_aload_n X 0 d_R_levels_124 rfl rfl ?_
        refine q_made X d_R_levels_125 ?_
        refine g_iload X d_R_levels_128 rfl ?_
        refine a_made X (by omega) d_R_levels_130 ?_
        refine g_iload X d_R_levels_131 rfl ?_
        refine n_i2l X (by omega) d_R_levels_133 ?_
        refine l_ne X 181 d_R_levels_134 d_R_levels_135 (by decide) (fun h135 => ?_) (fun h135 => ?_)
        · refine g_iinc X d_R_levels_181 rfl (nI_1 _) (by decide) ?_
          refine g_goto X 105 d_R_levels_184 (by decide) ?_
          exact g_sb (ih (i + 1) _ (by omega) (g_fl (wf := fun z => (rl δ b th wd hg s z)) (lf := fun z => [(0, .ref (b 0)), (1, .int (nI to)), (2, .int (nI a)), (4, .int (nI rr)), (5, .int (nI ii))]) (F := vrj s a rr ii) (by simp [vrj, mk0, h121, h135]) hx)) ⟨rfl, rfl, rfl, rfl, rfl, rfl, trivial⟩
        · refine g_aload_n X 0 d_R_levels_138 rfl rfl ?_
          refine q_has X d_R_levels_139 ?_
          refine g_bipush X (v := nI 64) d_R_levels_142 (by decide) ?_
          refine g_iload_n X 2 d_R_levels_144 rfl rfl ?_
          refine n_mul X d_R_levels_145 ?_
          refine g_bipush X (v := nI 8) d_R_levels_146 (by decide) ?_
          refine g_iload X d_R_levels_148 rfl ?_
          refine n_mul X d_R_levels_150 ?_
          refine n_add X d_R_levels_151 ?_
          refine g_iload X d_R_levels_152 rfl ?_
          refine n_add X d_R_levels_154 ?_
          refine a_has X (by omega) d_R_levels_155 ?_
          refine z_eq X 181 d_R_levels_156 (by decide) (fun h156 => ?_) (fun h156 => ?_)
          · refine g_iinc X d_R_levels_181 rfl (nI_1 _) (by decide) ?_
            refine g_goto X 105 d_R_levels_184 (by decide) ?_
            exact g_sb (ih (i + 1) _ (by omega) (g_fl (wf := fun z => (rl δ b th wd hg s z)) (lf := fun z => [(0, .ref (b 0)), (1, .int (nI to)), (2, .int (nI a)), (4, .int (nI rr)), (5, .int (nI ii))]) (F := vrj s a rr ii) (by simp [vrj, mk0, h121, h135, h156]) hx)) ⟨rfl, rfl, rfl, rfl, rfl, rfl, trivial⟩
          · refine g_aload_n X 0 d_R_levels_159 rfl rfl ?_
            refine q_there X d_R_levels_160 ?_
            refine g_iload X d_R_levels_163 rfl ?_
            refine a_there X (by omega) d_R_levels_165 ?_
            refine z_ne X 181 d_R_levels_166 (by decide) (fun h166 => ?_) (fun h166 => ?_)
            · refine g_iinc X d_R_levels_181 rfl (nI_1 _) (by decide) ?_
              refine g_goto X 105 d_R_levels_184 (by decide) ?_
              exact g_sb (ih (i + 1) _ (by omega) (g_fl (wf := fun z => (rl δ b th wd hg s z)) (lf := fun z => [(0, .ref (b 0)), (1, .int (nI to)), (2, .int (nI a)), (4, .int (nI rr)), (5, .int (nI ii))]) (F := vrj s a rr ii) (by simp [vrj, mk0, h121, h135, h156, h166]) hx)) ⟨rfl, rfl, rfl, rfl, rfl, rfl, trivial⟩
            · refine g_aload_n X 0 d_R_levels_169 rfl rfl ?_
              refine g_iconst X (v := nI 0) d_R_levels_170 (by decide) ?_
              refine g_iload X d_R_levels_171 rfl ?_
              refine g_iload X d_R_levels_173 rfl ?_
              refine g_iconst X (v := nI 1) d_R_levels_175 (by decide) ?_
              refine n_add X d_R_levels_176 ?_
              refine n_i2l X (by omega) d_R_levels_177 ?_
              refine g_VN1 X v_R_75 (q0 := 0) rfl (ci := 2) rfl (c_R_make htr hi (i := 0) (by omega) (by omega)) d_R_levels_178 rfl ?_ ?_
              · exact ⟨Nat.le_of_ble_eq_true rfl, Nat.le_of_ble_eq_true rfl, Nat.le_of_ble_eq_true rfl, Nat.le_of_ble_eq_true rfl⟩
              refine g_iinc X d_R_levels_181 rfl (nI_1 _) (by decide) ?_
              refine g_goto X 105 d_R_levels_184 (by decide) ?_
              exact g_sb (ih (i + 1) _ (by omega) (g_fl (wf := fun z => (rl δ b th wd hg s z)) (lf := fun z => [(0, .ref (b 0)), (1, .int (nI to)), (2, .int (nI a)), (4, .int (nI rr)), (5, .int (nI ii))]) (F := vrj s a rr ii) (by simp [vrj, mk0, h121, h135, h156, h166]) hx)) ⟨rfl, rfl, rfl, rfl, rfl, rfl, trivial⟩
set_option maxHeartbeats 4000000 in
set_option maxRecDepth 100000 in
theorem l_R_lev_i {κ : KX} {δ : EX} {b : Nat → Nat} {th wd hg : Nat} {P : OC → va_W → Prop} (X : XO κ R_R b_R_levels 7 (some .int) δ (RM 2) (Br b) []) (htr : (xl κ).stackTraces = false) (hi : In7 b) {s : SS} {to a : Nat} (hto : to < 6) (ha : a < 6) (h8 : wd ≤ 8) {rr : Nat} (hr : rr < 8) : ∀ (n i : Nat) (w : WS), i + n = wd → G κ 7 δ (Kn κ (Br b)) (Qe κ δ (Br b) P) 0 0 (rl δ b th wd hg s (fl (vri s a wd rr) i n w)) [(0, .ref (b 0)), (1, .int (nI to)), (2, .int (nI a)), (4, .int (nI rr))] [] 193 → G κ 7 δ (Kn κ (Br b)) (Qe κ δ (Br b) P) 0 0 (rl δ b th wd hg s w) [(0, .ref (b 0)), (1, .int (nI to)), (2, .int (nI a)), (4, .int (nI rr)), (5, .int (nI (i)))] [] 93 := by
  intro n
  induction n with
  | zero =>
    intro i w h hx
    refine g_iload X d_R_levels_93 rfl ?_
    refine g_aload_n X 0 d_R_levels_95 rfl rfl ?_
    refine q_wide X d_R_levels_96 ?_
    refine n_ge X 193 d_R_levels_99 (by decide) (by omega) (by omega) (fun h99 => ?_) (fun h99 => ?_)
    · exact g_sb hx ⟨rfl, rfl, rfl, rfl, trivial⟩
    · exact absurd h99 (by omega)
  | succ n ih =>
    intro i w h hx
    refine g_iload X d_R_levels_93 rfl ?_
    refine g_aload_n X 0 d_R_levels_95 rfl rfl ?_
    refine q_wide X d_R_levels_96 ?_
    refine n_ge X 193 d_R_levels_99 (by decide) (by omega) (by omega) (fun h99 => ?_) (fun h99 => ?_)
    · exact absurd h99 (by omega)
    · refine g_iconst X (v := nI 0) d_R_levels_102 (by decide) ?_
      refine g_istore X d_R_levels_103 (by decide) ?_
      refine g_sb (l_R_lev_j X htr hi hto ha h8 hr (by omega) wd 0 w (by omega) ?_) ⟨rfl, rfl, rfl, rfl, rfl, rfl, trivial⟩
      refine g_iinc X d_R_levels_187 rfl (nI_1 _) (by decide) ?_
      refine g_goto X 93 d_R_levels_190 (by decide) ?_
      exact g_sb (ih (i + 1) _ (by omega) (g_fl (wf := fun z => (rl δ b th wd hg s z)) (lf := fun z => [(0, .ref (b 0)), (1, .int (nI to)), (2, .int (nI a)), (4, .int (nI rr))]) (F := vri s a wd rr) (by rfl) hx)) ⟨rfl, rfl, rfl, rfl, rfl, trivial⟩
set_option maxHeartbeats 4000000 in
set_option maxRecDepth 100000 in
theorem l_R_lev_r {κ : KX} {δ : EX} {b : Nat → Nat} {th wd hg : Nat} {P : OC → va_W → Prop} (X : XO κ R_R b_R_levels 7 (some .int) δ (RM 2) (Br b) []) (htr : (xl κ).stackTraces = false) (hi : In7 b) {s : SS} {to a : Nat} (hto : to < 6) (ha : a < 6) (h8 : wd ≤ 8) : ∀ (n i : Nat) (w : WS), i + n = 8 → G κ 7 δ (Kn κ (Br b)) (Qe κ δ (Br b) P) 0 0 (rl δ b th wd hg s (fl (vrr s a wd) i n w)) [(0, .ref (b 0)), (1, .int (nI to)), (2, .int (nI a))] [] 199 → G κ 7 δ (Kn κ (Br b)) (Qe κ δ (Br b) P) 0 0 (rl δ b th wd hg s w) [(0, .ref (b 0)), (1, .int (nI to)), (2, .int (nI a)), (4, .int (nI (i)))] [] 83 := by
  intro n
  induction n with
  | zero =>
    intro i w h hx
    refine g_iload X d_R_levels_83 rfl ?_
    refine g_bipush X (v := nI 8) d_R_levels_85 (by decide) ?_
    refine n_ge X 199 d_R_levels_87 (by decide) (by omega) (by omega) (fun h87 => ?_) (fun h87 => ?_)
    · exact g_sb hx ⟨rfl, rfl, rfl, trivial⟩
    · exact absurd h87 (by omega)
  | succ n ih =>
    intro i w h hx
    refine g_iload X d_R_levels_83 rfl ?_
    refine g_bipush X (v := nI 8) d_R_levels_85 (by decide) ?_
    refine n_ge X 199 d_R_levels_87 (by decide) (by omega) (by omega) (fun h87 => ?_) (fun h87 => ?_)
    · exact absurd h87 (by omega)
    · refine g_iconst X (v := nI 0) d_R_levels_90 (by decide) ?_
      refine g_istore X d_R_levels_91 (by decide) ?_
      refine g_sb (l_R_lev_i X htr hi hto ha h8 (by omega) wd 0 w (by omega) ?_) ⟨rfl, rfl, rfl, rfl, rfl, trivial⟩
      refine g_iinc X d_R_levels_193 rfl (nI_1 _) (by decide) ?_
      refine g_goto X 83 d_R_levels_196 (by decide) ?_
      exact g_sb (ih (i + 1) _ (by omega) (g_fl (wf := fun z => (rl δ b th wd hg s z)) (lf := fun z => [(0, .ref (b 0)), (1, .int (nI to)), (2, .int (nI a))]) (F := vrr s a wd) (by rfl) hx)) ⟨rfl, rfl, rfl, rfl, trivial⟩
set_option maxHeartbeats 4000000 in
set_option maxRecDepth 100000 in
theorem c_R_levels {l : Launch} (htr : l.stackTraces = false) {δ : EX} {b : Nat → Nat} (hi : In7 b) {th wd hg : Nat} {s : SS} {w : WS} {to a : Nat} (hto : to < 6) (ha : a < 6) {so : Nat} (h8 : ∀ r, r < 6 → s.1 r ≤ 8 ∧ s.2.1 r ≤ 8) (hsq : s.1 a = s.2.1 a) (hso : so < s.1 a) : CTN l y_R_levels cw_R_levels (RM 2) δ (Br b) (rl δ b th wd hg s w) [.ref (b 0), .int (nI to), .int (nI a), .int (nI so)] (some (.int (nI (en (fiH s (vrS s a so (bgS w)) to (-1)).1 to)))) (rl δ b 0 (s.2.1 a) 1 (fiS s (vrS s a so (bgS w)) (s.2.1 a) 1 to (-1)) (vrS s a so (bgS w))) := by
  refine CT.ofN (lv := [(0, .ref (b 0)), (1, .int (nI to)), (2, .int (nI a)), (3, .int (nI so))]) (Or.inl ⟨rfl, rfl⟩) (by decide) htr rfl (Nat.le_of_ble_eq_true rfl) (fun κ hl X => ?_)
  subst hl
  have q8 := h8 a ha
  refine g_aload_n X 0 d_R_levels_0 rfl rfl ?_
  refine g_iload_n X 1 d_R_levels_1 rfl rfl ?_
  refine g_SP X KOk.n s_R_38 (c_R_isReg htr hto) d_R_levels_2 rfl ?_ ?_
  · exact ⟨Nat.le_of_ble_eq_true rfl, Nat.le_of_ble_eq_true rfl, Nat.le_of_ble_eq_true rfl, Nat.le_of_ble_eq_true rfl⟩
  refine g_if_eq X 15 d_R_levels_5 (by decide) (fun q => absurd q (by decide)) (fun _ => ?_)
  refine g_iload_n X 2 d_R_levels_8 rfl rfl ?_
  refine g_SP X KOk.n s_R_38 (c_R_isReg htr ha) d_R_levels_9 rfl ?_ ?_
  · exact ⟨Nat.le_of_ble_eq_true rfl, Nat.le_of_ble_eq_true rfl, Nat.le_of_ble_eq_true rfl, Nat.le_of_ble_eq_true rfl⟩
  refine g_if_ne X 19 d_R_levels_12 (by decide) (fun _ => ?_) (fun q => absurd q (by decide))
  refine g_aload_n X 0 d_R_levels_19 rfl rfl ?_
  refine g_iload_n X 2 d_R_levels_20 rfl rfl ?_
  refine g_VP X KOk.n v_R_105 (q0 := 0) rfl (ci := 2) rfl (c_R_isSq_t htr ha h8 hsq) d_R_levels_21 rfl ?_ ?_
  · exact ⟨Nat.le_of_ble_eq_true rfl, Nat.le_of_ble_eq_true rfl, Nat.le_of_ble_eq_true rfl, Nat.le_of_ble_eq_true rfl⟩
  refine g_if_ne X 31 d_R_levels_24 (by decide) (fun _ => ?_) (fun q => absurd q (by decide))
  refine g_iload_n X 3 d_R_levels_31 rfl rfl ?_
  refine n_zl X 45 d_R_levels_32 (by decide) (by omega) ?_
  refine g_iload_n X 3 d_R_levels_35 rfl rfl ?_
  refine g_aload_n X 0 d_R_levels_36 rfl rfl ?_
  refine q_rows X d_R_levels_37 ?_
  refine g_iload_n X 2 d_R_levels_40 rfl rfl ?_
  refine a_rows X (by omega) d_R_levels_41 ?_
  refine n_lt X 49 d_R_levels_42 (by decide) (by omega) (by omega) (fun h42 => ?_) (fun h42 => ?_)
  · refine g_iconst X (v := nI 0) d_R_levels_49 (by decide) ?_
    refine p_thrown X hi d_R_levels_50 ?_
    refine g_aload_n X 0 d_R_levels_53 rfl rfl ?_
    refine q_thrown X d_R_levels_54 ?_
    refine g_if_le X 62 d_R_levels_57 (by decide) (fun _ => ?_) (fun q => absurd q (by decide))
    refine g_aload_n X 0 d_R_levels_62 rfl rfl ?_
    refine g_iconst X (v := nI 1) d_R_levels_63 (by decide) ?_
    refine g_aload_n X 0 d_R_levels_64 rfl rfl ?_
    refine q_columns X d_R_levels_65 ?_
    refine g_iload_n X 2 d_R_levels_68 rfl rfl ?_
    refine a_columns X (by omega) d_R_levels_69 ?_
    refine g_VN1 X v_R_82 (q0 := 0) rfl (ci := 2) rfl (c_R_begin htr hi) d_R_levels_70 rfl ?_ ?_
    · exact ⟨Nat.le_of_ble_eq_true rfl, Nat.le_of_ble_eq_true rfl, Nat.le_of_ble_eq_true rfl, Nat.le_of_ble_eq_true rfl⟩
    refine g_aload_n X 0 d_R_levels_73 rfl rfl ?_
    refine g_iconst X (v := nI 0) d_R_levels_74 (by decide) ?_
    refine g_iload_n X 3 d_R_levels_75 rfl rfl ?_
    refine g_lconst X (v := 0) d_R_levels_76 (by decide) ?_
    refine g_VN1 X v_R_75 (q0 := 0) rfl (ci := 2) rfl (c_R_make htr hi (i := 0) (by omega) (by omega)) d_R_levels_77 rfl ?_ ?_
    · exact ⟨Nat.le_of_ble_eq_true rfl, Nat.le_of_ble_eq_true rfl, Nat.le_of_ble_eq_true rfl, Nat.le_of_ble_eq_true rfl⟩
    refine g_iconst X (v := nI 0) d_R_levels_80 (by decide) ?_
    refine g_istore X d_R_levels_81 (by decide) ?_
    rw [mk0]
    refine g_sb (l_R_lev_r X htr hi hto ha q8.2 8 0 (mkS (bgS w) so 0) (by omega) ?_) ⟨rfl, rfl, rfl, rfl, trivial⟩
    change G κ _ δ _ _ 0 0 (rl δ b _ _ _ s (vrS s a so (bgS w))) _ _ _
    refine g_aload_n X 0 d_R_levels_199 rfl rfl ?_
    refine g_iload_n X 1 d_R_levels_200 rfl rfl ?_
    refine g_iconst X (v := (-1)) d_R_levels_201 (by decide) ?_
    refine g_VN1 X v_R_93 (q0 := 0) rfl (ci := 2) rfl (c_R_finish htr hi hto) d_R_levels_202 rfl ?_ ?_
    · exact ⟨Nat.le_of_ble_eq_true rfl, Nat.le_of_ble_eq_true rfl, Nat.le_of_ble_eq_true rfl, Nat.le_of_ble_eq_true rfl⟩
    exact g_iret X KOk.n d_R_levels_205 ⟨rfl, rfl⟩
  · exact absurd hso (by omega)
set_option maxHeartbeats 4000000 in
set_option maxRecDepth 100000 in
theorem c_R_levels_x1 {l : Launch} (htr : l.stackTraces = false) {δ : EX} {b : Nat → Nat} (hi : In7 b) {th wd hg : Nat} {s : SS} {w : WS} {x1 x2 x3 : Int32} (h : bR x1 ∨ bR x2) : CTN l y_R_levels cw_R_levels (RM 2) δ (Br b) (rl δ b th wd hg s w) [.ref (b 0), .int x1, .int x2, .int x3] (some (.int 0)) (rl δ b 1 wd hg s w) := by
  refine CT.ofN (lv := [(0, .ref (b 0)), (1, .int x1), (2, .int x2), (3, .int x3)]) (Or.inl ⟨rfl, rfl⟩) (by decide) htr rfl (Nat.le_of_ble_eq_true rfl) (fun κ hl X => ?_)
  subst hl
  refine g_aload_n X 0 d_R_levels_0 rfl rfl ?_
  refine g_iload_n X 1 d_R_levels_1 rfl rfl ?_
  rcases bR_or x1 with q | ⟨r1, k1, rfl⟩
  · refine g_SP X KOk.n s_R_38 (c_R_isReg_x htr q) d_R_levels_2 rfl ?_ ?_
    · exact ⟨Nat.le_of_ble_eq_true rfl, Nat.le_of_ble_eq_true rfl, Nat.le_of_ble_eq_true rfl, Nat.le_of_ble_eq_true rfl⟩
    refine g_if_eq X 15 d_R_levels_5 (by decide) (fun _ => ?_) (fun q => absurd q (by decide))
    refine g_iconst X (v := nI 1) d_R_levels_15 (by decide) ?_
    refine g_goto X 50 d_R_levels_16 (by decide) ?_
    refine p_thrown X hi d_R_levels_50 ?_
    refine g_aload_n X 0 d_R_levels_53 rfl rfl ?_
    refine q_thrown X d_R_levels_54 ?_
    refine g_if_le X 62 d_R_levels_57 (by decide) (fun q => absurd q (by decide)) (fun _ => ?_)
    refine g_iconst X (v := nI 0) d_R_levels_60 (by decide) ?_
    exact g_iret X KOk.n d_R_levels_61 ⟨rfl, rfl⟩
  · refine g_SP X KOk.n s_R_38 (c_R_isReg htr k1) d_R_levels_2 rfl ?_ ?_
    · exact ⟨Nat.le_of_ble_eq_true rfl, Nat.le_of_ble_eq_true rfl, Nat.le_of_ble_eq_true rfl, Nat.le_of_ble_eq_true rfl⟩
    refine g_if_eq X 15 d_R_levels_5 (by decide) (fun q => absurd q (by decide)) (fun _ => ?_)
    refine g_iload_n X 2 d_R_levels_8 rfl rfl ?_
    rcases bR_or x2 with q | ⟨r2, k2, rfl⟩
    · refine g_SP X KOk.n s_R_38 (c_R_isReg_x htr q) d_R_levels_9 rfl ?_ ?_
      · exact ⟨Nat.le_of_ble_eq_true rfl, Nat.le_of_ble_eq_true rfl, Nat.le_of_ble_eq_true rfl, Nat.le_of_ble_eq_true rfl⟩
      refine g_if_ne X 19 d_R_levels_12 (by decide) (fun q => absurd q (by decide)) (fun _ => ?_)
      refine g_iconst X (v := nI 1) d_R_levels_15 (by decide) ?_
      refine g_goto X 50 d_R_levels_16 (by decide) ?_
      refine p_thrown X hi d_R_levels_50 ?_
      refine g_aload_n X 0 d_R_levels_53 rfl rfl ?_
      refine q_thrown X d_R_levels_54 ?_
      refine g_if_le X 62 d_R_levels_57 (by decide) (fun q => absurd q (by decide)) (fun _ => ?_)
      refine g_iconst X (v := nI 0) d_R_levels_60 (by decide) ?_
      exact g_iret X KOk.n d_R_levels_61 ⟨rfl, rfl⟩
    · refine g_SP X KOk.n s_R_38 (c_R_isReg htr k2) d_R_levels_9 rfl ?_ ?_
      · exact ⟨Nat.le_of_ble_eq_true rfl, Nat.le_of_ble_eq_true rfl, Nat.le_of_ble_eq_true rfl, Nat.le_of_ble_eq_true rfl⟩
      refine g_if_ne X 19 d_R_levels_12 (by decide) (fun _ => ?_) (fun q => absurd q (by decide))
      exact absurd h (by
        rintro (q | q)
        · exact bR_no k1 q
        · exact bR_no k2 q)
set_option maxHeartbeats 4000000 in
set_option maxRecDepth 100000 in
theorem c_R_levels_x2 {l : Launch} (htr : l.stackTraces = false) {δ : EX} {b : Nat → Nat} (hi : In7 b) {th wd hg : Nat} {s : SS} {w : WS} {to a : Nat} (hto : to < 6) (ha : a < 6) {x3 : Int32} (h8 : ∀ r, r < 6 → s.1 r ≤ 8 ∧ s.2.1 r ≤ 8) (hsq : ¬ s.1 a = s.2.1 a) : CTN l y_R_levels cw_R_levels (RM 2) δ (Br b) (rl δ b th wd hg s w) [.ref (b 0), .int (nI to), .int (nI a), .int x3] (some (.int 0)) (rl δ b 2 wd hg s w) := by
  refine CT.ofN (lv := [(0, .ref (b 0)), (1, .int (nI to)), (2, .int (nI a)), (3, .int x3)]) (Or.inl ⟨rfl, rfl⟩) (by decide) htr rfl (Nat.le_of_ble_eq_true rfl) (fun κ hl X => ?_)
  subst hl
  refine g_aload_n X 0 d_R_levels_0 rfl rfl ?_
  refine g_iload_n X 1 d_R_levels_1 rfl rfl ?_
  refine g_SP X KOk.n s_R_38 (c_R_isReg htr hto) d_R_levels_2 rfl ?_ ?_
  · exact ⟨Nat.le_of_ble_eq_true rfl, Nat.le_of_ble_eq_true rfl, Nat.le_of_ble_eq_true rfl, Nat.le_of_ble_eq_true rfl⟩
  refine g_if_eq X 15 d_R_levels_5 (by decide) (fun q => absurd q (by decide)) (fun _ => ?_)
  refine g_iload_n X 2 d_R_levels_8 rfl rfl ?_
  refine g_SP X KOk.n s_R_38 (c_R_isReg htr ha) d_R_levels_9 rfl ?_ ?_
  · exact ⟨Nat.le_of_ble_eq_true rfl, Nat.le_of_ble_eq_true rfl, Nat.le_of_ble_eq_true rfl, Nat.le_of_ble_eq_true rfl⟩
  refine g_if_ne X 19 d_R_levels_12 (by decide) (fun _ => ?_) (fun q => absurd q (by decide))
  refine g_aload_n X 0 d_R_levels_19 rfl rfl ?_
  refine g_iload_n X 2 d_R_levels_20 rfl rfl ?_
  refine g_VP X KOk.n v_R_105 (q0 := 0) rfl (ci := 2) rfl (c_R_isSq_f htr ha h8 hsq) d_R_levels_21 rfl ?_ ?_
  · exact ⟨Nat.le_of_ble_eq_true rfl, Nat.le_of_ble_eq_true rfl, Nat.le_of_ble_eq_true rfl, Nat.le_of_ble_eq_true rfl⟩
  refine g_if_ne X 31 d_R_levels_24 (by decide) (fun q => absurd q (by decide)) (fun _ => ?_)
  refine g_iconst X (v := nI 2) d_R_levels_27 (by decide) ?_
  refine g_goto X 50 d_R_levels_28 (by decide) ?_
  refine p_thrown X hi d_R_levels_50 ?_
  refine g_aload_n X 0 d_R_levels_53 rfl rfl ?_
  refine q_thrown X d_R_levels_54 ?_
  refine g_if_le X 62 d_R_levels_57 (by decide) (fun q => absurd q (by decide)) (fun _ => ?_)
  refine g_iconst X (v := nI 0) d_R_levels_60 (by decide) ?_
  exact g_iret X KOk.n d_R_levels_61 ⟨rfl, rfl⟩
set_option maxHeartbeats 4000000 in
set_option maxRecDepth 100000 in
theorem c_R_levels_x3 {l : Launch} (htr : l.stackTraces = false) {δ : EX} {b : Nat → Nat} (hi : In7 b) {th wd hg : Nat} {s : SS} {w : WS} {to a : Nat} (hto : to < 6) (ha : a < 6) {x3 : Int32} (h8 : ∀ r, r < 6 → s.1 r ≤ 8 ∧ s.2.1 r ≤ 8) (hsq : s.1 a = s.2.1 a) (hx : x3 < 0 ∨ nI (s.1 a) ≤ x3) : CTN l y_R_levels cw_R_levels (RM 2) δ (Br b) (rl δ b th wd hg s w) [.ref (b 0), .int (nI to), .int (nI a), .int x3] (some (.int 0)) (rl δ b 3 wd hg s w) := by
  refine CT.ofN (lv := [(0, .ref (b 0)), (1, .int (nI to)), (2, .int (nI a)), (3, .int x3)]) (Or.inl ⟨rfl, rfl⟩) (by decide) htr rfl (Nat.le_of_ble_eq_true rfl) (fun κ hl X => ?_)
  subst hl
  refine g_aload_n X 0 d_R_levels_0 rfl rfl ?_
  refine g_iload_n X 1 d_R_levels_1 rfl rfl ?_
  refine g_SP X KOk.n s_R_38 (c_R_isReg htr hto) d_R_levels_2 rfl ?_ ?_
  · exact ⟨Nat.le_of_ble_eq_true rfl, Nat.le_of_ble_eq_true rfl, Nat.le_of_ble_eq_true rfl, Nat.le_of_ble_eq_true rfl⟩
  refine g_if_eq X 15 d_R_levels_5 (by decide) (fun q => absurd q (by decide)) (fun _ => ?_)
  refine g_iload_n X 2 d_R_levels_8 rfl rfl ?_
  refine g_SP X KOk.n s_R_38 (c_R_isReg htr ha) d_R_levels_9 rfl ?_ ?_
  · exact ⟨Nat.le_of_ble_eq_true rfl, Nat.le_of_ble_eq_true rfl, Nat.le_of_ble_eq_true rfl, Nat.le_of_ble_eq_true rfl⟩
  refine g_if_ne X 19 d_R_levels_12 (by decide) (fun _ => ?_) (fun q => absurd q (by decide))
  refine g_aload_n X 0 d_R_levels_19 rfl rfl ?_
  refine g_iload_n X 2 d_R_levels_20 rfl rfl ?_
  refine g_VP X KOk.n v_R_105 (q0 := 0) rfl (ci := 2) rfl (c_R_isSq_t htr ha h8 hsq) d_R_levels_21 rfl ?_ ?_
  · exact ⟨Nat.le_of_ble_eq_true rfl, Nat.le_of_ble_eq_true rfl, Nat.le_of_ble_eq_true rfl, Nat.le_of_ble_eq_true rfl⟩
  refine g_if_ne X 31 d_R_levels_24 (by decide) (fun _ => ?_) (fun q => absurd q (by decide))
  refine g_iload_n X 3 d_R_levels_31 rfl rfl ?_
  refine g_if_lt X 45 d_R_levels_32 (by decide) (fun h32 => ?_) (fun h32 => ?_)
  · refine g_iconst X (v := nI 3) d_R_levels_45 (by decide) ?_
    refine g_goto X 50 d_R_levels_46 (by decide) ?_
    refine p_thrown X hi d_R_levels_50 ?_
    refine g_aload_n X 0 d_R_levels_53 rfl rfl ?_
    refine q_thrown X d_R_levels_54 ?_
    refine g_if_le X 62 d_R_levels_57 (by decide) (fun q => absurd q (by decide)) (fun _ => ?_)
    refine g_iconst X (v := nI 0) d_R_levels_60 (by decide) ?_
    exact g_iret X KOk.n d_R_levels_61 ⟨rfl, rfl⟩
  · refine g_iload_n X 3 d_R_levels_35 rfl rfl ?_
    refine g_aload_n X 0 d_R_levels_36 rfl rfl ?_
    refine q_rows X d_R_levels_37 ?_
    refine g_iload_n X 2 d_R_levels_40 rfl rfl ?_
    refine a_rows X (by omega) d_R_levels_41 ?_
    refine g_icmp_lt X 49 d_R_levels_42 (by decide) (fun h42 => ?_) (fun h42 => ?_)
    · exact absurd hx (by
        rintro (q | q)
        · exact h32 q
        · exact Int32.not_lt.mpr q h42)
    · refine g_iconst X (v := nI 3) d_R_levels_45 (by decide) ?_
      refine g_goto X 50 d_R_levels_46 (by decide) ?_
      refine p_thrown X hi d_R_levels_50 ?_
      refine g_aload_n X 0 d_R_levels_53 rfl rfl ?_
      refine q_thrown X d_R_levels_54 ?_
      refine g_if_le X 62 d_R_levels_57 (by decide) (fun q => absurd q (by decide)) (fun _ => ?_)
      refine g_iconst X (v := nI 0) d_R_levels_60 (by decide) ?_
      exact g_iret X KOk.n d_R_levels_61 ⟨rfl, rfl⟩
def rxj (t i j : Nat) (w : WS) : WS := if w.2.1 (8 * i + t) = true ∧ w.2.1 (8 * t + j) = true then (if w.2.1 (8 * i + j) = false ∨ w.2.2 (8 * i + t) + w.2.2 (8 * t + j) < w.2.2 (8 * i + j) then mkS w (8 * i + j) (w.2.2 (8 * i + t) + w.2.2 (8 * t + j)) else w) else w
def rxi (hg t i : Nat) (w : WS) : WS := fl (rxj t i) 0 hg w
def rxt (hg t : Nat) (w : WS) : WS := fl (rxi hg t) 0 hg w
def rxS (hg : Nat) (w : WS) : WS := fl (rxt hg) 0 hg w
set_option maxHeartbeats 4000000 in
set_option maxRecDepth 100000 in
theorem l_R_rx_j {κ : KX} {δ : EX} {b : Nat → Nat} {th wd hg : Nat} {P : OC → va_W → Prop} (X : XO κ R_R b_R_relax 6 none δ (RM 1) (Br b) []) (htr : (xl κ).stackTraces = false) (hi : In7 b) {s : SS} (h8 : hg ≤ 8) {tt ii : Nat} (htt : tt < hg) (hii : ii < hg) : ∀ (n i : Nat) (w : WS), i + n = hg → G κ 6 δ (Kn κ (Br b)) (Qe κ δ (Br b) P) 0 0 (rl δ b th wd hg s (fl (rxj tt ii) i n w)) [(0, .ref (b 0)), (1, .int (nI tt)), (2, .int (nI ii))] [] 128 → G κ 6 δ (Kn κ (Br b)) (Qe κ δ (Br b) P) 0 0 (rl δ b th wd hg s w) [(0, .ref (b 0)), (1, .int (nI tt)), (2, .int (nI ii)), (3, .int (nI (i)))] [] 22 := by
  intro n
  induction n with
  | zero =>
    intro i w h hx
    refine g_iload_n X 3 d_R_relax_22 rfl rfl ?_
    refine g_aload_n X 0 d_R_relax_23 rfl rfl ?_
    refine q_high X d_R_relax_24 ?_
    refine n_ge X 128 d_R_relax_27 (by decide) (by omega) (by omega) (fun h27 => ?_) (fun h27 => ?_)
    · exact g_sb hx ⟨rfl, rfl, rfl, trivial⟩
    · exact absurd h27 (by omega)
  | succ n ih =>
    intro i w h hx
    refine g_iload_n X 3 d_R_relax_22 rfl rfl ?_
    refine g_aload_n X 0 d_R_relax_23 rfl rfl ?_
    refine q_high X d_R_relax_24 ?_
    refine n_ge X 128 d_R_relax_27 (by decide) (by omega) (by omega) (fun h27 => ?_) (fun h27 => ?_)
    · exact absurd h27 (by omega)
    · refine g_aload_n X 0 d_R_relax_30 rfl rfl ?_
      refine q_there X d_R_relax_31 ?_
      refine g_bipush X (v := nI 8) d_R_relax_34 (by decide) ?_
      refine g_iload_n X 2 d_R_relax_36 rfl rfl ?_
      refine n_mul X d_R_relax_37 ?_
      refine g_iload_n X 1 d_R_relax_38 rfl rfl ?_
      refine n_add X d_R_relax_39 ?_
      refine a_there X (by omega) d_R_relax_40 ?_
      refine z_eq X 122 d_R_relax_41 (by decide) (fun h41 => ?_) (fun h41 => ?_)
      · refine g_iinc X d_R_relax_122 rfl (nI_1 _) (by decide) ?_
        refine g_goto X 22 d_R_relax_125 (by decide) ?_
        exact g_sb (ih (i + 1) _ (by omega) (g_fl (wf := fun z => (rl δ b th wd hg s z)) (lf := fun z => [(0, .ref (b 0)), (1, .int (nI tt)), (2, .int (nI ii))]) (F := rxj tt ii) (by simp [rxj, h41]) hx)) ⟨rfl, rfl, rfl, rfl, trivial⟩
      · refine g_aload_n X 0 d_R_relax_44 rfl rfl ?_
        refine q_there X d_R_relax_45 ?_
        refine g_bipush X (v := nI 8) d_R_relax_48 (by decide) ?_
        refine g_iload_n X 1 d_R_relax_50 rfl rfl ?_
        refine n_mul X d_R_relax_51 ?_
        refine g_iload_n X 3 d_R_relax_52 rfl rfl ?_
        refine n_add X d_R_relax_53 ?_
        refine a_there X (by omega) d_R_relax_54 ?_
        refine z_eq X 122 d_R_relax_55 (by decide) (fun h55 => ?_) (fun h55 => ?_)
        · refine g_iinc X d_R_relax_122 rfl (nI_1 _) (by decide) ?_
          refine g_goto X 22 d_R_relax_125 (by decide) ?_
          exact g_sb (ih (i + 1) _ (by omega) (g_fl (wf := fun z => (rl δ b th wd hg s z)) (lf := fun z => [(0, .ref (b 0)), (1, .int (nI tt)), (2, .int (nI ii))]) (F := rxj tt ii) (by simp [rxj, h41, h55]) hx)) ⟨rfl, rfl, rfl, rfl, trivial⟩
        · refine g_aload_n X 0 d_R_relax_58 rfl rfl ?_
          refine q_made X d_R_relax_59 ?_
          refine g_bipush X (v := nI 8) d_R_relax_62 (by decide) ?_
          refine g_iload_n X 2 d_R_relax_64 rfl rfl ?_
          refine n_mul X d_R_relax_65 ?_
          refine g_iload_n X 1 d_R_relax_66 rfl rfl ?_
          refine n_add X d_R_relax_67 ?_
          refine a_made X (by omega) d_R_relax_68 ?_
          refine g_aload_n X 0 d_R_relax_69 rfl rfl ?_
          refine q_made X d_R_relax_70 ?_
          refine g_bipush X (v := nI 8) d_R_relax_73 (by decide) ?_
          refine g_iload_n X 1 d_R_relax_75 rfl rfl ?_
          refine n_mul X d_R_relax_76 ?_
          refine g_iload_n X 3 d_R_relax_77 rfl rfl ?_
          refine n_add X d_R_relax_78 ?_
          refine a_made X (by omega) d_R_relax_79 ?_
          refine g_ladd X d_R_relax_80 ?_
          refine g_lstore X d_R_relax_81 (by decide) ?_
          refine g_aload_n X 0 d_R_relax_83 rfl rfl ?_
          refine q_there X d_R_relax_84 ?_
          refine g_bipush X (v := nI 8) d_R_relax_87 (by decide) ?_
          refine g_iload_n X 2 d_R_relax_89 rfl rfl ?_
          refine n_mul X d_R_relax_90 ?_
          refine g_iload_n X 3 d_R_relax_91 rfl rfl ?_
          refine n_add X d_R_relax_92 ?_
          refine a_there X (by omega) d_R_relax_93 ?_
          refine z_eq X 114 d_R_relax_94 (by decide) (fun h94 => ?_) (fun h94 => ?_)
          · refine g_aload_n X 0 d_R_relax_114 rfl rfl ?_
            refine g_iload_n X 2 d_R_relax_115 rfl rfl ?_
            refine g_iload_n X 3 d_R_relax_116 rfl rfl ?_
            refine g_lload X d_R_relax_117 rfl ?_
            refine g_VN1 X v_R_75 (q0 := 0) rfl (ci := 2) rfl (c_R_make htr hi (by omega) (by omega)) d_R_relax_119 rfl ?_ ?_
            · exact ⟨Nat.le_of_ble_eq_true rfl, Nat.le_of_ble_eq_true rfl, Nat.le_of_ble_eq_true rfl, Nat.le_of_ble_eq_true rfl⟩
            refine g_iinc X d_R_relax_122 rfl (nI_1 _) (by decide) ?_
            refine g_goto X 22 d_R_relax_125 (by decide) ?_
            exact g_sb (ih (i + 1) _ (by omega) (g_fl (wf := fun z => (rl δ b th wd hg s z)) (lf := fun z => [(0, .ref (b 0)), (1, .int (nI tt)), (2, .int (nI ii))]) (F := rxj tt ii) (by simp [rxj, h41, h55, h94]) hx)) ⟨rfl, rfl, rfl, rfl, trivial⟩
          · refine g_lload X d_R_relax_97 rfl ?_
            refine g_aload_n X 0 d_R_relax_99 rfl rfl ?_
            refine q_made X d_R_relax_100 ?_
            refine g_bipush X (v := nI 8) d_R_relax_103 (by decide) ?_
            refine g_iload_n X 2 d_R_relax_105 rfl rfl ?_
            refine n_mul X d_R_relax_106 ?_
            refine g_iload_n X 3 d_R_relax_107 rfl rfl ?_
            refine n_add X d_R_relax_108 ?_
            refine a_made X (by omega) d_R_relax_109 ?_
            refine l_ge X 122 d_R_relax_110 d_R_relax_111 (by decide) (fun h111 => ?_) (fun h111 => ?_)
            · refine g_iinc X d_R_relax_122 rfl (nI_1 _) (by decide) ?_
              refine g_goto X 22 d_R_relax_125 (by decide) ?_
              exact g_sb (ih (i + 1) _ (by omega) (g_fl (wf := fun z => (rl δ b th wd hg s z)) (lf := fun z => [(0, .ref (b 0)), (1, .int (nI tt)), (2, .int (nI ii))]) (F := rxj tt ii) (by simp [rxj, h41, h55, h94, h111]) hx)) ⟨rfl, rfl, rfl, rfl, trivial⟩
            · refine g_aload_n X 0 d_R_relax_114 rfl rfl ?_
              refine g_iload_n X 2 d_R_relax_115 rfl rfl ?_
              refine g_iload_n X 3 d_R_relax_116 rfl rfl ?_
              refine g_lload X d_R_relax_117 rfl ?_
              refine g_VN1 X v_R_75 (q0 := 0) rfl (ci := 2) rfl (c_R_make htr hi (by omega) (by omega)) d_R_relax_119 rfl ?_ ?_
              · exact ⟨Nat.le_of_ble_eq_true rfl, Nat.le_of_ble_eq_true rfl, Nat.le_of_ble_eq_true rfl, Nat.le_of_ble_eq_true rfl⟩
              refine g_iinc X d_R_relax_122 rfl (nI_1 _) (by decide) ?_
              refine g_goto X 22 d_R_relax_125 (by decide) ?_
              exact g_sb (ih (i + 1) _ (by omega) (g_fl (wf := fun z => (rl δ b th wd hg s z)) (lf := fun z => [(0, .ref (b 0)), (1, .int (nI tt)), (2, .int (nI ii))]) (F := rxj tt ii) (by simp [rxj, h41, h55, h94, h111]) hx)) ⟨rfl, rfl, rfl, rfl, trivial⟩
set_option maxHeartbeats 4000000 in
set_option maxRecDepth 100000 in
theorem l_R_rx_i {κ : KX} {δ : EX} {b : Nat → Nat} {th wd hg : Nat} {P : OC → va_W → Prop} (X : XO κ R_R b_R_relax 6 none δ (RM 1) (Br b) []) (htr : (xl κ).stackTraces = false) (hi : In7 b) {s : SS} (h8 : hg ≤ 8) {tt : Nat} (htt : tt < hg) : ∀ (n i : Nat) (w : WS), i + n = hg → G κ 6 δ (Kn κ (Br b)) (Qe κ δ (Br b) P) 0 0 (rl δ b th wd hg s (fl (rxi hg tt) i n w)) [(0, .ref (b 0)), (1, .int (nI tt))] [] 134 → G κ 6 δ (Kn κ (Br b)) (Qe κ δ (Br b) P) 0 0 (rl δ b th wd hg s w) [(0, .ref (b 0)), (1, .int (nI tt)), (2, .int (nI (i)))] [] 12 := by
  intro n
  induction n with
  | zero =>
    intro i w h hx
    refine g_iload_n X 2 d_R_relax_12 rfl rfl ?_
    refine g_aload_n X 0 d_R_relax_13 rfl rfl ?_
    refine q_high X d_R_relax_14 ?_
    refine n_ge X 134 d_R_relax_17 (by decide) (by omega) (by omega) (fun h17 => ?_) (fun h17 => ?_)
    · exact g_sb hx ⟨rfl, rfl, trivial⟩
    · exact absurd h17 (by omega)
  | succ n ih =>
    intro i w h hx
    refine g_iload_n X 2 d_R_relax_12 rfl rfl ?_
    refine g_aload_n X 0 d_R_relax_13 rfl rfl ?_
    refine q_high X d_R_relax_14 ?_
    refine n_ge X 134 d_R_relax_17 (by decide) (by omega) (by omega) (fun h17 => ?_) (fun h17 => ?_)
    · exact absurd h17 (by omega)
    · refine g_iconst X (v := nI 0) d_R_relax_20 (by decide) ?_
      refine g_istore_n X 3 d_R_relax_21 rfl (by decide) ?_
      refine g_sb (l_R_rx_j X htr hi h8 htt (by omega) hg 0 w (by omega) ?_) ⟨rfl, rfl, rfl, rfl, trivial⟩
      refine g_iinc X d_R_relax_128 rfl (nI_1 _) (by decide) ?_
      refine g_goto X 12 d_R_relax_131 (by decide) ?_
      exact g_sb (ih (i + 1) _ (by omega) (g_fl (wf := fun z => (rl δ b th wd hg s z)) (lf := fun z => [(0, .ref (b 0)), (1, .int (nI tt))]) (F := rxi hg tt) (by rfl) hx)) ⟨rfl, rfl, rfl, trivial⟩
set_option maxHeartbeats 4000000 in
set_option maxRecDepth 100000 in
theorem l_R_rx_t {κ : KX} {δ : EX} {b : Nat → Nat} {th wd hg : Nat} {P : OC → va_W → Prop} (X : XO κ R_R b_R_relax 6 none δ (RM 1) (Br b) []) (htr : (xl κ).stackTraces = false) (hi : In7 b) {s : SS} (h8 : hg ≤ 8) : ∀ (n i : Nat) (w : WS), i + n = hg → G κ 6 δ (Kn κ (Br b)) (Qe κ δ (Br b) P) 0 0 (rl δ b th wd hg s (fl (rxt hg) i n w)) [(0, .ref (b 0))] [] 140 → G κ 6 δ (Kn κ (Br b)) (Qe κ δ (Br b) P) 0 0 (rl δ b th wd hg s w) [(0, .ref (b 0)), (1, .int (nI (i)))] [] 2 := by
  intro n
  induction n with
  | zero =>
    intro i w h hx
    refine g_iload_n X 1 d_R_relax_2 rfl rfl ?_
    refine g_aload_n X 0 d_R_relax_3 rfl rfl ?_
    refine q_high X d_R_relax_4 ?_
    refine n_ge X 140 d_R_relax_7 (by decide) (by omega) (by omega) (fun h7 => ?_) (fun h7 => ?_)
    · exact g_sb hx ⟨rfl, trivial⟩
    · exact absurd h7 (by omega)
  | succ n ih =>
    intro i w h hx
    refine g_iload_n X 1 d_R_relax_2 rfl rfl ?_
    refine g_aload_n X 0 d_R_relax_3 rfl rfl ?_
    refine q_high X d_R_relax_4 ?_
    refine n_ge X 140 d_R_relax_7 (by decide) (by omega) (by omega) (fun h7 => ?_) (fun h7 => ?_)
    · exact absurd h7 (by omega)
    · refine g_iconst X (v := nI 0) d_R_relax_10 (by decide) ?_
      refine g_istore_n X 2 d_R_relax_11 rfl (by decide) ?_
      refine g_sb (l_R_rx_i X htr hi h8 (by omega) hg 0 w (by omega) ?_) ⟨rfl, rfl, rfl, trivial⟩
      refine g_iinc X d_R_relax_134 rfl (nI_1 _) (by decide) ?_
      refine g_goto X 2 d_R_relax_137 (by decide) ?_
      exact g_sb (ih (i + 1) _ (by omega) (g_fl (wf := fun z => (rl δ b th wd hg s z)) (lf := fun z => [(0, .ref (b 0))]) (F := rxt hg) (by rfl) hx)) ⟨rfl, rfl, trivial⟩
set_option maxHeartbeats 4000000 in
set_option maxRecDepth 100000 in
theorem c_R_relax {l : Launch} (htr : l.stackTraces = false) {δ : EX} {b : Nat → Nat} (hi : In7 b) {th wd hg : Nat} {s : SS} {w : WS} (h8 : hg ≤ 8) : CTN l y_R_relax cw_R_relax (RM 1) δ (Br b) (rl δ b th wd hg s w) [.ref (b 0)] none (rl δ b th wd hg s (rxS hg w)) := by
  refine CT.ofN (lv := [(0, .ref (b 0))]) (Or.inl ⟨rfl, rfl⟩) (by decide) htr rfl (Nat.le_of_ble_eq_true rfl) (fun κ hl X => ?_)
  subst hl
  refine g_iconst X (v := nI 0) d_R_relax_0 (by decide) ?_
  refine g_istore_n X 1 d_R_relax_1 rfl (by decide) ?_
  refine g_sb (l_R_rx_t X htr hi h8 hg 0 w (by omega) ?_) ⟨rfl, rfl, trivial⟩
  exact g_vret X KOk.n d_R_relax_140 ⟨rfl, rfl⟩
def paj (s : SS) (a p : Nat) (w : WS) : WS := if s.2.2.1 (64 * a + p) = true then mkS (w.1 || (decide (s.2.2.2 (64 * a + p) < -1000000000) || decide (1000000000 < s.2.2.2 (64 * a + p))), w.2) (8 * (p / 8) + p % 8) (s.2.2.2 (64 * a + p)) else w
def pdj (i : Nat) (w : WS) : WS := if w.2.1 (9 * i) = false ∨ 0 < w.2.2 (9 * i) then mkS w (8 * i + i) 0 else w
def pcj (w : WS) (i : Nat) (z : Bool) : Bool := z || decide (w.2.2 (9 * i) < 0)
def paA (s : SS) (a : Nat) (w : WS) : WS := fl pdj 0 (s.1 a) (fl (paj s a) 0 64 w)
def paW (s : SS) (a : Nat) (w : WS) : WS := if (paA s a w).1 = true then paA s a w else rxS (s.1 a) (paA s a w)
def paC (s : SS) (a : Nat) (w : WS) : Bool := fl (pcj (paW s a w)) 0 (s.1 a) false
/-- what paths answers: numbers too large, a circle, or the lengths -/
def PAP (δ : EX) (b : Nat → Nat) (s : SS) (w : WS) (to a : Nat) : OC → va_W → Prop := fun r ww =>
  ((paW s a w).1 = true ∧ r = .inr (some (.int 0)) ∧ ww = rl δ b 3 (s.1 a) (s.1 a) s (paW s a w)) ∨
  ((paW s a w).1 = false ∧ paC s a w = true ∧ r = .inr (some (.int 0)) ∧ ww = rl δ b 4 (s.1 a) (s.1 a) s (paW s a w)) ∨
  ((paW s a w).1 = false ∧ paC s a w = false ∧ r = .inr (some (.int (nI (en (fiH s (paW s a w) to (-1)).1 to)))) ∧ ww = rl δ b 0 (s.1 a) (s.1 a) (fiS s (paW s a w) (s.1 a) (s.1 a) to (-1)) (paW s a w))
set_option maxHeartbeats 4000000 in
set_option maxRecDepth 100000 in
theorem l_R_pa_p {κ : KX} {δ : EX} {b : Nat → Nat} {th wd hg : Nat} {P : OC → va_W → Prop} (X : XO κ R_R b_R_paths 6 (some .int) δ (RM 2) (Br b) []) (htr : (xl κ).stackTraces = false) (hi : In7 b) {s : SS} {to a : Nat} (hto : to < 6) (ha : a < 6) : ∀ (n i : Nat) (w : WS), i + n = 64 → G κ 6 δ (Kn κ (Br b)) (Qe κ δ (Br b) P) 0 0 (rl δ b th wd hg s (fl (paj s a) i n w)) [(0, .ref (b 0)), (1, .int (nI to)), (2, .int (nI a))] [] 149 → G κ 6 δ (Kn κ (Br b)) (Qe κ δ (Br b) P) 0 0 (rl δ b th wd hg s w) [(0, .ref (b 0)), (1, .int (nI to)), (2, .int (nI a)), (3, .int (nI (i)))] [] 62 := by
  intro n
  induction n with
  | zero =>
    intro i w h hx
    refine g_iload_n X 3 d_R_paths_62 rfl rfl ?_
    refine g_bipush X (v := nI 64) d_R_paths_63 (by decide) ?_
    refine n_ge X 149 d_R_paths_65 (by decide) (by omega) (by omega) (fun h65 => ?_) (fun h65 => ?_)
    · exact g_sb hx ⟨rfl, rfl, rfl, trivial⟩
    · exact absurd h65 (by omega)
  | succ n ih =>
    intro i w h hx
    refine g_iload_n X 3 d_R_paths_62 rfl rfl ?_
    refine g_bipush X (v := nI 64) d_R_paths_63 (by decide) ?_
    refine n_ge X 149 d_R_paths_65 (by decide) (by omega) (by omega) (fun h65 => ?_) (fun h65 => ?_)
    · exact absurd h65 (by omega)
    · refine g_aload_n X 0 d_R_paths_68 rfl rfl ?_
      refine q_has X d_R_paths_69 ?_
      refine g_bipush X (v := nI 64) d_R_paths_72 (by decide) ?_
      refine g_iload_n X 2 d_R_paths_74 rfl rfl ?_
      refine n_mul X d_R_paths_75 ?_
      refine g_iload_n X 3 d_R_paths_76 rfl rfl ?_
      refine n_add X d_R_paths_77 ?_
      refine a_has X (by omega) d_R_paths_78 ?_
      refine z_eq X 143 d_R_paths_79 (by decide) (fun h79 => ?_) (fun h79 => ?_)
      · refine g_iinc X d_R_paths_143 rfl (nI_1 _) (by decide) ?_
        refine g_goto X 62 d_R_paths_146 (by decide) ?_
        exact g_sb (ih (i + 1) _ (by omega) (g_fl (wf := fun z => (rl δ b th wd hg s z)) (lf := fun z => [(0, .ref (b 0)), (1, .int (nI to)), (2, .int (nI a))]) (F := paj s a) (by simp [paj, h79]) hx)) ⟨rfl, rfl, rfl, rfl, trivial⟩
      · refine g_aload_n X 0 d_R_paths_82 rfl rfl ?_
        refine q_value X d_R_paths_83 ?_
        refine g_bipush X (v := nI 64) d_R_paths_86 (by decide) ?_
        refine g_iload_n X 2 d_R_paths_88 rfl rfl ?_
        refine n_mul X d_R_paths_89 ?_
        refine g_iload_n X 3 d_R_paths_90 rfl rfl ?_
        refine n_add X d_R_paths_91 ?_
        refine a_value X (by omega) d_R_paths_92 ?_
        refine g_lstore X d_R_paths_93 (by decide) ?_
        refine g_aload_n X 0 d_R_paths_95 rfl rfl ?_
        refine g_aload_n X 0 d_R_paths_96 rfl rfl ?_
        refine q_far X d_R_paths_97 ?_
        refine z_ne X 121 d_R_paths_100 (by decide) (fun h100 => ?_) (fun h100 => ?_)
        · refine g_iconst X (v := nI 1) d_R_paths_121 (by decide) ?_
          refine g_goto X 126 d_R_paths_122 (by decide) ?_
          refine p_far X hi true (by decide) d_R_paths_126 ?_
          refine g_aload_n X 0 d_R_paths_129 rfl rfl ?_
          refine g_iload_n X 3 d_R_paths_130 rfl rfl ?_
          refine g_bipush X (v := nI 8) d_R_paths_131 (by decide) ?_
          refine n_div X (by omega) (by decide) (by decide) d_R_paths_133 ?_
          refine g_iload_n X 3 d_R_paths_134 rfl rfl ?_
          refine g_bipush X (v := nI 8) d_R_paths_135 (by decide) ?_
          refine n_rem X (by omega) (by decide) (by decide) d_R_paths_137 ?_
          refine g_lload X d_R_paths_138 rfl ?_
          refine g_VN1 X v_R_75 (q0 := 0) rfl (ci := 2) rfl (c_R_make htr hi (by omega) (by omega)) d_R_paths_140 rfl ?_ ?_
          · exact ⟨Nat.le_of_ble_eq_true rfl, Nat.le_of_ble_eq_true rfl, Nat.le_of_ble_eq_true rfl, Nat.le_of_ble_eq_true rfl⟩
          refine g_iinc X d_R_paths_143 rfl (nI_1 _) (by decide) ?_
          refine g_goto X 62 d_R_paths_146 (by decide) ?_
          exact g_sb (ih (i + 1) _ (by omega) (g_fl (wf := fun z => (rl δ b th wd hg s z)) (lf := fun z => [(0, .ref (b 0)), (1, .int (nI to)), (2, .int (nI a))]) (F := paj s a) (by simp [paj, h79, h100]) hx)) ⟨rfl, rfl, rfl, rfl, trivial⟩
        · refine g_lload X d_R_paths_103 rfl ?_
          refine g_ldc2 X d_R_paths_105 kq_R_108 ?_
          refine l_lt X 121 d_R_paths_108 d_R_paths_109 (by decide) (fun h109 => ?_) (fun h109 => ?_)
          · refine g_iconst X (v := nI 1) d_R_paths_121 (by decide) ?_
            refine g_goto X 126 d_R_paths_122 (by decide) ?_
            refine p_far X hi true (by decide) d_R_paths_126 ?_
            refine g_aload_n X 0 d_R_paths_129 rfl rfl ?_
            refine g_iload_n X 3 d_R_paths_130 rfl rfl ?_
            refine g_bipush X (v := nI 8) d_R_paths_131 (by decide) ?_
            refine n_div X (by omega) (by decide) (by decide) d_R_paths_133 ?_
            refine g_iload_n X 3 d_R_paths_134 rfl rfl ?_
            refine g_bipush X (v := nI 8) d_R_paths_135 (by decide) ?_
            refine n_rem X (by omega) (by decide) (by decide) d_R_paths_137 ?_
            refine g_lload X d_R_paths_138 rfl ?_
            refine g_VN1 X v_R_75 (q0 := 0) rfl (ci := 2) rfl (c_R_make htr hi (by omega) (by omega)) d_R_paths_140 rfl ?_ ?_
            · exact ⟨Nat.le_of_ble_eq_true rfl, Nat.le_of_ble_eq_true rfl, Nat.le_of_ble_eq_true rfl, Nat.le_of_ble_eq_true rfl⟩
            refine g_iinc X d_R_paths_143 rfl (nI_1 _) (by decide) ?_
            refine g_goto X 62 d_R_paths_146 (by decide) ?_
            exact g_sb (ih (i + 1) _ (by omega) (g_fl (wf := fun z => (rl δ b th wd hg s z)) (lf := fun z => [(0, .ref (b 0)), (1, .int (nI to)), (2, .int (nI a))]) (F := paj s a) (by simp [paj, h79, h100, h109]) hx)) ⟨rfl, rfl, rfl, rfl, trivial⟩
          · refine g_lload X d_R_paths_112 rfl ?_
            refine g_ldc2 X d_R_paths_114 kq_R_110 ?_
            refine l_le X 125 d_R_paths_117 d_R_paths_118 (by decide) (fun h118 => ?_) (fun h118 => ?_)
            · refine g_iconst X (v := nI 0) d_R_paths_125 (by decide) ?_
              refine p_far X hi false (by decide) d_R_paths_126 ?_
              refine g_aload_n X 0 d_R_paths_129 rfl rfl ?_
              refine g_iload_n X 3 d_R_paths_130 rfl rfl ?_
              refine g_bipush X (v := nI 8) d_R_paths_131 (by decide) ?_
              refine n_div X (by omega) (by decide) (by decide) d_R_paths_133 ?_
              refine g_iload_n X 3 d_R_paths_134 rfl rfl ?_
              refine g_bipush X (v := nI 8) d_R_paths_135 (by decide) ?_
              refine n_rem X (by omega) (by decide) (by decide) d_R_paths_137 ?_
              refine g_lload X d_R_paths_138 rfl ?_
              refine g_VN1 X v_R_75 (q0 := 0) rfl (ci := 2) rfl (c_R_make htr hi (by omega) (by omega)) d_R_paths_140 rfl ?_ ?_
              · exact ⟨Nat.le_of_ble_eq_true rfl, Nat.le_of_ble_eq_true rfl, Nat.le_of_ble_eq_true rfl, Nat.le_of_ble_eq_true rfl⟩
              refine g_iinc X d_R_paths_143 rfl (nI_1 _) (by decide) ?_
              refine g_goto X 62 d_R_paths_146 (by decide) ?_
              exact g_sb (ih (i + 1) _ (by omega) (g_fl (wf := fun z => (rl δ b th wd hg s z)) (lf := fun z => [(0, .ref (b 0)), (1, .int (nI to)), (2, .int (nI a))]) (F := paj s a) (by simp [paj, h79, h100, h109, h118]) hx)) ⟨rfl, rfl, rfl, rfl, trivial⟩
            · refine g_iconst X (v := nI 1) d_R_paths_121 (by decide) ?_
              refine g_goto X 126 d_R_paths_122 (by decide) ?_
              refine p_far X hi true (by decide) d_R_paths_126 ?_
              refine g_aload_n X 0 d_R_paths_129 rfl rfl ?_
              refine g_iload_n X 3 d_R_paths_130 rfl rfl ?_
              refine g_bipush X (v := nI 8) d_R_paths_131 (by decide) ?_
              refine n_div X (by omega) (by decide) (by decide) d_R_paths_133 ?_
              refine g_iload_n X 3 d_R_paths_134 rfl rfl ?_
              refine g_bipush X (v := nI 8) d_R_paths_135 (by decide) ?_
              refine n_rem X (by omega) (by decide) (by decide) d_R_paths_137 ?_
              refine g_lload X d_R_paths_138 rfl ?_
              refine g_VN1 X v_R_75 (q0 := 0) rfl (ci := 2) rfl (c_R_make htr hi (by omega) (by omega)) d_R_paths_140 rfl ?_ ?_
              · exact ⟨Nat.le_of_ble_eq_true rfl, Nat.le_of_ble_eq_true rfl, Nat.le_of_ble_eq_true rfl, Nat.le_of_ble_eq_true rfl⟩
              refine g_iinc X d_R_paths_143 rfl (nI_1 _) (by decide) ?_
              refine g_goto X 62 d_R_paths_146 (by decide) ?_
              exact g_sb (ih (i + 1) _ (by omega) (g_fl (wf := fun z => (rl δ b th wd hg s z)) (lf := fun z => [(0, .ref (b 0)), (1, .int (nI to)), (2, .int (nI a))]) (F := paj s a) (by simp [paj, h79, h100, h109, h118]) hx)) ⟨rfl, rfl, rfl, rfl, trivial⟩
set_option maxHeartbeats 4000000 in
set_option maxRecDepth 100000 in
theorem l_R_pa_d {κ : KX} {δ : EX} {b : Nat → Nat} {th wd hg : Nat} {P : OC → va_W → Prop} (X : XO κ R_R b_R_paths 6 (some .int) δ (RM 2) (Br b) []) (htr : (xl κ).stackTraces = false) (hi : In7 b) {s : SS} {zz : Bool} {to a : Nat} (hto : to < 6) (ha : a < 6) (h8 : hg ≤ 8) : ∀ (n i : Nat) (w : WS), i + n = hg → G κ 6 δ (Kn κ (Br b)) (Qe κ δ (Br b) P) 0 0 (rl δ b th wd hg s (fl (pdj) i n w)) [(0, .ref (b 0)), (1, .int (nI to)), (2, .int (nI a)), (3, .int (b2 zz))] [] 206 → G κ 6 δ (Kn κ (Br b)) (Qe κ δ (Br b) P) 0 0 (rl δ b th wd hg s w) [(0, .ref (b 0)), (1, .int (nI to)), (2, .int (nI a)), (3, .int (b2 zz)), (4, .int (nI (i)))] [] 154 := by
  intro n
  induction n with
  | zero =>
    intro i w h hx
    refine g_iload X d_R_paths_154 rfl ?_
    refine g_aload_n X 0 d_R_paths_156 rfl rfl ?_
    refine q_high X d_R_paths_157 ?_
    refine n_ge X 206 d_R_paths_160 (by decide) (by omega) (by omega) (fun h160 => ?_) (fun h160 => ?_)
    · exact g_sb hx ⟨rfl, rfl, rfl, rfl, trivial⟩
    · exact absurd h160 (by omega)
  | succ n ih =>
    intro i w h hx
    refine g_iload X d_R_paths_154 rfl ?_
    refine g_aload_n X 0 d_R_paths_156 rfl rfl ?_
    refine q_high X d_R_paths_157 ?_
    refine n_ge X 206 d_R_paths_160 (by decide) (by omega) (by omega) (fun h160 => ?_) (fun h160 => ?_)
    · exact absurd h160 (by omega)
    · refine g_aload_n X 0 d_R_paths_163 rfl rfl ?_
      refine q_there X d_R_paths_164 ?_
      refine g_bipush X (v := nI 9) d_R_paths_167 (by decide) ?_
      refine g_iload X d_R_paths_169 rfl ?_
      refine n_mul X d_R_paths_171 ?_
      refine a_there X (by omega) d_R_paths_172 ?_
      refine z_eq X 191 d_R_paths_173 (by decide) (fun h173 => ?_) (fun h173 => ?_)
      · refine g_aload_n X 0 d_R_paths_191 rfl rfl ?_
        refine g_iload X d_R_paths_192 rfl ?_
        refine g_iload X d_R_paths_194 rfl ?_
        refine g_lconst X (v := 0) d_R_paths_196 (by decide) ?_
        refine g_VN1 X v_R_75 (q0 := 0) rfl (ci := 2) rfl (c_R_make htr hi (by omega) (by omega)) d_R_paths_197 rfl ?_ ?_
        · exact ⟨Nat.le_of_ble_eq_true rfl, Nat.le_of_ble_eq_true rfl, Nat.le_of_ble_eq_true rfl, Nat.le_of_ble_eq_true rfl⟩
        refine g_iinc X d_R_paths_200 rfl (nI_1 _) (by decide) ?_
        refine g_goto X 154 d_R_paths_203 (by decide) ?_
        exact g_sb (ih (i + 1) _ (by omega) (g_fl (wf := fun z => (rl δ b th wd hg s z)) (lf := fun z => [(0, .ref (b 0)), (1, .int (nI to)), (2, .int (nI a)), (3, .int (b2 zz))]) (F := pdj) (by simp [pdj, h173]) hx)) ⟨rfl, rfl, rfl, rfl, rfl, trivial⟩
      · refine g_aload_n X 0 d_R_paths_176 rfl rfl ?_
        refine q_made X d_R_paths_177 ?_
        refine g_bipush X (v := nI 9) d_R_paths_180 (by decide) ?_
        refine g_iload X d_R_paths_182 rfl ?_
        refine n_mul X d_R_paths_184 ?_
        refine a_made X (by omega) d_R_paths_185 ?_
        refine g_lconst X (v := 0) d_R_paths_186 (by decide) ?_
        refine l_le X 200 d_R_paths_187 d_R_paths_188 (by decide) (fun h188 => ?_) (fun h188 => ?_)
        · refine g_iinc X d_R_paths_200 rfl (nI_1 _) (by decide) ?_
          refine g_goto X 154 d_R_paths_203 (by decide) ?_
          exact g_sb (ih (i + 1) _ (by omega) (g_fl (wf := fun z => (rl δ b th wd hg s z)) (lf := fun z => [(0, .ref (b 0)), (1, .int (nI to)), (2, .int (nI a)), (3, .int (b2 zz))]) (F := pdj) (by simp [pdj, h173, h188]) hx)) ⟨rfl, rfl, rfl, rfl, rfl, trivial⟩
        · refine g_aload_n X 0 d_R_paths_191 rfl rfl ?_
          refine g_iload X d_R_paths_192 rfl ?_
          refine g_iload X d_R_paths_194 rfl ?_
          refine g_lconst X (v := 0) d_R_paths_196 (by decide) ?_
          refine g_VN1 X v_R_75 (q0 := 0) rfl (ci := 2) rfl (c_R_make htr hi (by omega) (by omega)) d_R_paths_197 rfl ?_ ?_
          · exact ⟨Nat.le_of_ble_eq_true rfl, Nat.le_of_ble_eq_true rfl, Nat.le_of_ble_eq_true rfl, Nat.le_of_ble_eq_true rfl⟩
          refine g_iinc X d_R_paths_200 rfl (nI_1 _) (by decide) ?_
          refine g_goto X 154 d_R_paths_203 (by decide) ?_
          exact g_sb (ih (i + 1) _ (by omega) (g_fl (wf := fun z => (rl δ b th wd hg s z)) (lf := fun z => [(0, .ref (b 0)), (1, .int (nI to)), (2, .int (nI a)), (3, .int (b2 zz))]) (F := pdj) (by simp [pdj, h173, h188]) hx)) ⟨rfl, rfl, rfl, rfl, rfl, trivial⟩
set_option maxHeartbeats 4000000 in
set_option maxRecDepth 100000 in
theorem l_R_pa_c {κ : KX} {δ : EX} {b : Nat → Nat} {th wd hg : Nat} {P : OC → va_W → Prop} (X : XO κ R_R b_R_paths 6 (some .int) δ (RM 2) (Br b) []) (htr : (xl κ).stackTraces = false) (hi : In7 b) {s : SS} {w : WS} {to a : Nat} (hto : to < 6) (ha : a < 6) (h8 : hg ≤ 8) : ∀ (n i : Nat) (z : Bool), i + n = hg → G κ 6 δ (Kn κ (Br b)) (Qe κ δ (Br b) P) 0 0 (rl δ b th wd hg s w) [(0, .ref (b 0)), (1, .int (nI to)), (2, .int (nI a)), (3, .int (b2 (fl (pcj w) i n z)))] [] 260 → G κ 6 δ (Kn κ (Br b)) (Qe κ δ (Br b) P) 0 0 (rl δ b th wd hg s w) [(0, .ref (b 0)), (1, .int (nI to)), (2, .int (nI a)), (3, .int (b2 z)), (4, .int (nI (i)))] [] 220 := by
  intro n
  induction n with
  | zero =>
    intro i z h hx
    refine g_iload X d_R_paths_220 rfl ?_
    refine g_aload_n X 0 d_R_paths_222 rfl rfl ?_
    refine q_high X d_R_paths_223 ?_
    refine n_ge X 260 d_R_paths_226 (by decide) (by omega) (by omega) (fun h226 => ?_) (fun h226 => ?_)
    · exact g_sb hx ⟨rfl, rfl, rfl, rfl, trivial⟩
    · exact absurd h226 (by omega)
  | succ n ih =>
    intro i z h hx
    refine g_iload X d_R_paths_220 rfl ?_
    refine g_aload_n X 0 d_R_paths_222 rfl rfl ?_
    refine q_high X d_R_paths_223 ?_
    refine n_ge X 260 d_R_paths_226 (by decide) (by omega) (by omega) (fun h226 => ?_) (fun h226 => ?_)
    · exact absurd h226 (by omega)
    · refine g_iload_n X 3 d_R_paths_229 rfl rfl ?_
      refine z_ne X 248 d_R_paths_230 (by decide) (fun h230 => ?_) (fun h230 => ?_)
      · refine g_iconst X (v := nI 1) d_R_paths_248 (by decide) ?_
        refine g_goto X 253 d_R_paths_249 (by decide) ?_
        refine g_istore_n X 3 d_R_paths_253 rfl (by decide) ?_
        refine g_iinc X d_R_paths_254 rfl (nI_1 _) (by decide) ?_
        refine g_goto X 220 d_R_paths_257 (by decide) ?_
        exact g_sb (ih (i + 1) true (by omega) (g_fl (wf := fun z => (rl δ b th wd hg s w)) (lf := fun z => [(0, .ref (b 0)), (1, .int (nI to)), (2, .int (nI a)), (3, .int (b2 z))]) (F := pcj w) (by simp [pcj, h230]) hx)) ⟨rfl, rfl, rfl, rfl, rfl, trivial⟩
      · refine g_aload_n X 0 d_R_paths_233 rfl rfl ?_
        refine q_made X d_R_paths_234 ?_
        refine g_bipush X (v := nI 9) d_R_paths_237 (by decide) ?_
        refine g_iload X d_R_paths_239 rfl ?_
        refine n_mul X d_R_paths_241 ?_
        refine a_made X (by omega) d_R_paths_242 ?_
        refine g_lconst X (v := 0) d_R_paths_243 (by decide) ?_
        refine l_ge X 252 d_R_paths_244 d_R_paths_245 (by decide) (fun h245 => ?_) (fun h245 => ?_)
        · refine g_iconst X (v := nI 0) d_R_paths_252 (by decide) ?_
          refine g_istore_n X 3 d_R_paths_253 rfl (by decide) ?_
          refine g_iinc X d_R_paths_254 rfl (nI_1 _) (by decide) ?_
          refine g_goto X 220 d_R_paths_257 (by decide) ?_
          exact g_sb (ih (i + 1) false (by omega) (g_fl (wf := fun z => (rl δ b th wd hg s w)) (lf := fun z => [(0, .ref (b 0)), (1, .int (nI to)), (2, .int (nI a)), (3, .int (b2 z))]) (F := pcj w) (by simp [pcj, h230, h245]) hx)) ⟨rfl, rfl, rfl, rfl, rfl, trivial⟩
        · refine g_iconst X (v := nI 1) d_R_paths_248 (by decide) ?_
          refine g_goto X 253 d_R_paths_249 (by decide) ?_
          refine g_istore_n X 3 d_R_paths_253 rfl (by decide) ?_
          refine g_iinc X d_R_paths_254 rfl (nI_1 _) (by decide) ?_
          refine g_goto X 220 d_R_paths_257 (by decide) ?_
          exact g_sb (ih (i + 1) true (by omega) (g_fl (wf := fun z => (rl δ b th wd hg s w)) (lf := fun z => [(0, .ref (b 0)), (1, .int (nI to)), (2, .int (nI a)), (3, .int (b2 z))]) (F := pcj w) (by simp [pcj, h230, h245]) hx)) ⟨rfl, rfl, rfl, rfl, rfl, trivial⟩
set_option maxHeartbeats 4000000 in
set_option maxRecDepth 100000 in
theorem c_R_paths {l : Launch} (htr : l.stackTraces = false) {δ : EX} {b : Nat → Nat} (hi : In7 b) {th wd hg : Nat} {s : SS} {w : WS} {to a : Nat} (hto : to < 6) (ha : a < 6) (h8 : ∀ r, r < 6 → s.1 r ≤ 8 ∧ s.2.1 r ≤ 8) (hsq : s.1 a = s.2.1 a) : CT l y_R_paths cw_R_paths (RM 2) δ (Br b) (rl δ b th wd hg s w) [.ref (b 0), .int (nI to), .int (nI a)] (PAP δ b s (bgS w) to a) := by
  refine CT.ofN (lv := [(0, .ref (b 0)), (1, .int (nI to)), (2, .int (nI a))]) (Or.inl ⟨rfl, rfl⟩) (by decide) htr rfl (Nat.le_of_ble_eq_true rfl) (fun κ hl X => ?_)
  subst hl
  have q8 := h8 a ha
  refine g_aload_n X 0 d_R_paths_0 rfl rfl ?_
  refine g_iload_n X 1 d_R_paths_1 rfl rfl ?_
  refine g_SP X KOk.n s_R_38 (c_R_isReg htr hto) d_R_paths_2 rfl ?_ ?_
  · exact ⟨Nat.le_of_ble_eq_true rfl, Nat.le_of_ble_eq_true rfl, Nat.le_of_ble_eq_true rfl, Nat.le_of_ble_eq_true rfl⟩
  refine g_if_eq X 15 d_R_paths_5 (by decide) (fun q => absurd q (by decide)) (fun _ => ?_)
  refine g_iload_n X 2 d_R_paths_8 rfl rfl ?_
  refine g_SP X KOk.n s_R_38 (c_R_isReg htr ha) d_R_paths_9 rfl ?_ ?_
  · exact ⟨Nat.le_of_ble_eq_true rfl, Nat.le_of_ble_eq_true rfl, Nat.le_of_ble_eq_true rfl, Nat.le_of_ble_eq_true rfl⟩
  refine g_if_ne X 19 d_R_paths_12 (by decide) (fun _ => ?_) (fun q => absurd q (by decide))
  refine g_aload_n X 0 d_R_paths_19 rfl rfl ?_
  refine g_iload_n X 2 d_R_paths_20 rfl rfl ?_
  refine g_VP X KOk.n v_R_105 (q0 := 0) rfl (ci := 2) rfl (c_R_isSq_t htr ha h8 hsq) d_R_paths_21 rfl ?_ ?_
  · exact ⟨Nat.le_of_ble_eq_true rfl, Nat.le_of_ble_eq_true rfl, Nat.le_of_ble_eq_true rfl, Nat.le_of_ble_eq_true rfl⟩
  refine g_if_ne X 31 d_R_paths_24 (by decide) (fun _ => ?_) (fun q => absurd q (by decide))
  refine g_iconst X (v := nI 0) d_R_paths_31 (by decide) ?_
  refine p_thrown X hi d_R_paths_32 ?_
  refine g_aload_n X 0 d_R_paths_35 rfl rfl ?_
  refine q_thrown X d_R_paths_36 ?_
  refine g_if_le X 44 d_R_paths_39 (by decide) (fun _ => ?_) (fun q => absurd q (by decide))
  refine g_aload_n X 0 d_R_paths_44 rfl rfl ?_
  refine g_aload_n X 0 d_R_paths_45 rfl rfl ?_
  refine q_rows X d_R_paths_46 ?_
  refine g_iload_n X 2 d_R_paths_49 rfl rfl ?_
  refine a_rows X (by omega) d_R_paths_50 ?_
  refine g_aload_n X 0 d_R_paths_51 rfl rfl ?_
  refine q_rows X d_R_paths_52 ?_
  refine g_iload_n X 2 d_R_paths_55 rfl rfl ?_
  refine a_rows X (by omega) d_R_paths_56 ?_
  refine g_VN1 X v_R_82 (q0 := 0) rfl (ci := 2) rfl (c_R_begin htr hi) d_R_paths_57 rfl ?_ ?_
  · exact ⟨Nat.le_of_ble_eq_true rfl, Nat.le_of_ble_eq_true rfl, Nat.le_of_ble_eq_true rfl, Nat.le_of_ble_eq_true rfl⟩
  refine g_iconst X (v := nI 0) d_R_paths_60 (by decide) ?_
  refine g_istore_n X 3 d_R_paths_61 rfl (by decide) ?_
  refine g_sb (l_R_pa_p X htr hi hto ha 64 0 (bgS w) (by omega) ?_) ⟨rfl, rfl, rfl, rfl, trivial⟩
  refine g_iconst X (v := nI 0) d_R_paths_149 (by decide) ?_
  refine g_istore_n X 3 d_R_paths_150 rfl (by decide) ?_
  refine g_iconst X (v := nI 0) d_R_paths_151 (by decide) ?_
  refine g_istore X d_R_paths_152 (by decide) ?_
  refine g_sb (l_R_pa_d X htr hi (zz := false) hto ha q8.1 (s.1 a) 0 _ (by omega) ?_) ⟨rfl, rfl, rfl, rfl, rfl, trivial⟩
  change G κ _ δ _ _ 0 0 (rl δ b _ _ _ s (paA s a (bgS w))) _ _ _
  refine g_aload_n X 0 d_R_paths_206 rfl rfl ?_
  refine q_far X d_R_paths_207 ?_
  refine z_ne X 217 d_R_paths_210 (by decide) (fun h210 => ?_) (fun h210 => ?_)
  · have ew : (paW s a (bgS w)) = paA s a (bgS w) := by
      unfold paW
      rw [if_pos h210]
    rw [← ew]
    refine g_iconst X (v := nI 0) d_R_paths_217 (by decide) ?_
    refine g_istore X d_R_paths_218 (by decide) ?_
    refine g_sb (l_R_pa_c X htr hi hto ha q8.1 (s.1 a) 0 false (by omega) ?_) ⟨rfl, rfl, rfl, rfl, rfl, trivial⟩
    change G κ _ δ _ _ 0 0 (rl δ b _ _ _ s (paW s a (bgS w))) [(0, .ref (b 0)), (1, .int (nI to)), (2, .int (nI a)), (3, .int (b2 (paC s a (bgS w))))] _ _
    refine g_aload_n X 0 d_R_paths_260 rfl rfl ?_
    refine g_aload_n X 0 d_R_paths_261 rfl rfl ?_
    refine q_far X d_R_paths_262 ?_
    refine z_eq X 272 d_R_paths_265 (by decide) (fun h265 => ?_) (fun h265 => ?_)
    · refine g_iload_n X 3 d_R_paths_272 rfl rfl ?_
      refine z_eq X 280 d_R_paths_273 (by decide) (fun h273 => ?_) (fun h273 => ?_)
      · refine g_iconst X (v := nI 0) d_R_paths_280 (by decide) ?_
        refine p_thrown X hi d_R_paths_281 ?_
        refine g_aload_n X 0 d_R_paths_284 rfl rfl ?_
        refine q_thrown X d_R_paths_285 ?_
        refine g_if_le X 295 d_R_paths_288 (by decide) (fun _ => ?_) (fun q => absurd q (by decide))
        refine g_aload_n X 0 d_R_paths_295 rfl rfl ?_
        refine g_iload_n X 1 d_R_paths_296 rfl rfl ?_
        refine g_iconst X (v := (-1)) d_R_paths_297 (by decide) ?_
        refine g_VN1 X v_R_93 (q0 := 0) rfl (ci := 2) rfl (c_R_finish htr hi hto) d_R_paths_298 rfl ?_ ?_
        · exact ⟨Nat.le_of_ble_eq_true rfl, Nat.le_of_ble_eq_true rfl, Nat.le_of_ble_eq_true rfl, Nat.le_of_ble_eq_true rfl⟩
        exact g_iret X KOk.n d_R_paths_301 (Or.inr (Or.inr ⟨h265, h273, rfl, rfl⟩))
      · refine g_iconst X (v := nI 4) d_R_paths_276 (by decide) ?_
        refine g_goto X 281 d_R_paths_277 (by decide) ?_
        refine p_thrown X hi d_R_paths_281 ?_
        refine g_aload_n X 0 d_R_paths_284 rfl rfl ?_
        refine q_thrown X d_R_paths_285 ?_
        refine g_if_le X 295 d_R_paths_288 (by decide) (fun q => absurd q (by decide)) (fun _ => ?_)
        refine g_iconst X (v := nI 0) d_R_paths_291 (by decide) ?_
        refine g_goto X 301 d_R_paths_292 (by decide) ?_
        exact g_iret X KOk.n d_R_paths_301 (Or.inr (Or.inl ⟨h265, h273, rfl, rfl⟩))
    · refine g_iconst X (v := nI 3) d_R_paths_268 (by decide) ?_
      refine g_goto X 281 d_R_paths_269 (by decide) ?_
      refine p_thrown X hi d_R_paths_281 ?_
      refine g_aload_n X 0 d_R_paths_284 rfl rfl ?_
      refine q_thrown X d_R_paths_285 ?_
      refine g_if_le X 295 d_R_paths_288 (by decide) (fun q => absurd q (by decide)) (fun _ => ?_)
      refine g_iconst X (v := nI 0) d_R_paths_291 (by decide) ?_
      refine g_goto X 301 d_R_paths_292 (by decide) ?_
      exact g_iret X KOk.n d_R_paths_301 (Or.inl ⟨h265, rfl, rfl⟩)
  · refine g_aload_n X 0 d_R_paths_213 rfl rfl ?_
    refine g_VN1 X v_R_112 (q0 := 0) rfl (ci := 2) rfl (c_R_relax htr hi q8.1) d_R_paths_214 rfl ?_ ?_
    · exact ⟨Nat.le_of_ble_eq_true rfl, Nat.le_of_ble_eq_true rfl, Nat.le_of_ble_eq_true rfl, Nat.le_of_ble_eq_true rfl⟩
    have ew : (paW s a (bgS w)) = rxS (s.1 a) (paA s a (bgS w)) := by
      unfold paW
      rw [if_neg (by rw [h210]; decide)]
    rw [← ew]
    refine g_iconst X (v := nI 0) d_R_paths_217 (by decide) ?_
    refine g_istore X d_R_paths_218 (by decide) ?_
    refine g_sb (l_R_pa_c X htr hi hto ha q8.1 (s.1 a) 0 false (by omega) ?_) ⟨rfl, rfl, rfl, rfl, rfl, trivial⟩
    change G κ _ δ _ _ 0 0 (rl δ b _ _ _ s (paW s a (bgS w))) [(0, .ref (b 0)), (1, .int (nI to)), (2, .int (nI a)), (3, .int (b2 (paC s a (bgS w))))] _ _
    refine g_aload_n X 0 d_R_paths_260 rfl rfl ?_
    refine g_aload_n X 0 d_R_paths_261 rfl rfl ?_
    refine q_far X d_R_paths_262 ?_
    refine z_eq X 272 d_R_paths_265 (by decide) (fun h265 => ?_) (fun h265 => ?_)
    · refine g_iload_n X 3 d_R_paths_272 rfl rfl ?_
      refine z_eq X 280 d_R_paths_273 (by decide) (fun h273 => ?_) (fun h273 => ?_)
      · refine g_iconst X (v := nI 0) d_R_paths_280 (by decide) ?_
        refine p_thrown X hi d_R_paths_281 ?_
        refine g_aload_n X 0 d_R_paths_284 rfl rfl ?_
        refine q_thrown X d_R_paths_285 ?_
        refine g_if_le X 295 d_R_paths_288 (by decide) (fun _ => ?_) (fun q => absurd q (by decide))
        refine g_aload_n X 0 d_R_paths_295 rfl rfl ?_
        refine g_iload_n X 1 d_R_paths_296 rfl rfl ?_
        refine g_iconst X (v := (-1)) d_R_paths_297 (by decide) ?_
        refine g_VN1 X v_R_93 (q0 := 0) rfl (ci := 2) rfl (c_R_finish htr hi hto) d_R_paths_298 rfl ?_ ?_
        · exact ⟨Nat.le_of_ble_eq_true rfl, Nat.le_of_ble_eq_true rfl, Nat.le_of_ble_eq_true rfl, Nat.le_of_ble_eq_true rfl⟩
        exact g_iret X KOk.n d_R_paths_301 (Or.inr (Or.inr ⟨h265, h273, rfl, rfl⟩))
      · refine g_iconst X (v := nI 4) d_R_paths_276 (by decide) ?_
        refine g_goto X 281 d_R_paths_277 (by decide) ?_
        refine p_thrown X hi d_R_paths_281 ?_
        refine g_aload_n X 0 d_R_paths_284 rfl rfl ?_
        refine q_thrown X d_R_paths_285 ?_
        refine g_if_le X 295 d_R_paths_288 (by decide) (fun q => absurd q (by decide)) (fun _ => ?_)
        refine g_iconst X (v := nI 0) d_R_paths_291 (by decide) ?_
        refine g_goto X 301 d_R_paths_292 (by decide) ?_
        exact g_iret X KOk.n d_R_paths_301 (Or.inr (Or.inl ⟨h265, h273, rfl, rfl⟩))
    · refine g_iconst X (v := nI 3) d_R_paths_268 (by decide) ?_
      refine g_goto X 281 d_R_paths_269 (by decide) ?_
      refine p_thrown X hi d_R_paths_281 ?_
      refine g_aload_n X 0 d_R_paths_284 rfl rfl ?_
      refine q_thrown X d_R_paths_285 ?_
      refine g_if_le X 295 d_R_paths_288 (by decide) (fun q => absurd q (by decide)) (fun _ => ?_)
      refine g_iconst X (v := nI 0) d_R_paths_291 (by decide) ?_
      refine g_goto X 301 d_R_paths_292 (by decide) ?_
      exact g_iret X KOk.n d_R_paths_301 (Or.inl ⟨h265, rfl, rfl⟩)
set_option maxHeartbeats 4000000 in
set_option maxRecDepth 100000 in
theorem c_R_paths_x1 {l : Launch} (htr : l.stackTraces = false) {δ : EX} {b : Nat → Nat} (hi : In7 b) {th wd hg : Nat} {s : SS} {w : WS} {x1 x2 : Int32} (h : bR x1 ∨ bR x2) : CTN l y_R_paths cw_R_paths (RM 2) δ (Br b) (rl δ b th wd hg s w) [.ref (b 0), .int x1, .int x2] (some (.int 0)) (rl δ b 1 wd hg s w) := by
  refine CT.ofN (lv := [(0, .ref (b 0)), (1, .int x1), (2, .int x2)]) (Or.inl ⟨rfl, rfl⟩) (by decide) htr rfl (Nat.le_of_ble_eq_true rfl) (fun κ hl X => ?_)
  subst hl
  refine g_aload_n X 0 d_R_paths_0 rfl rfl ?_
  refine g_iload_n X 1 d_R_paths_1 rfl rfl ?_
  rcases bR_or x1 with q | ⟨r1, k1, rfl⟩
  · refine g_SP X KOk.n s_R_38 (c_R_isReg_x htr q) d_R_paths_2 rfl ?_ ?_
    · exact ⟨Nat.le_of_ble_eq_true rfl, Nat.le_of_ble_eq_true rfl, Nat.le_of_ble_eq_true rfl, Nat.le_of_ble_eq_true rfl⟩
    refine g_if_eq X 15 d_R_paths_5 (by decide) (fun _ => ?_) (fun q => absurd q (by decide))
    refine g_iconst X (v := nI 1) d_R_paths_15 (by decide) ?_
    refine g_goto X 32 d_R_paths_16 (by decide) ?_
    refine p_thrown X hi d_R_paths_32 ?_
    refine g_aload_n X 0 d_R_paths_35 rfl rfl ?_
    refine q_thrown X d_R_paths_36 ?_
    refine g_if_le X 44 d_R_paths_39 (by decide) (fun q => absurd q (by decide)) (fun _ => ?_)
    refine g_iconst X (v := nI 0) d_R_paths_42 (by decide) ?_
    exact g_iret X KOk.n d_R_paths_43 ⟨rfl, rfl⟩
  · refine g_SP X KOk.n s_R_38 (c_R_isReg htr k1) d_R_paths_2 rfl ?_ ?_
    · exact ⟨Nat.le_of_ble_eq_true rfl, Nat.le_of_ble_eq_true rfl, Nat.le_of_ble_eq_true rfl, Nat.le_of_ble_eq_true rfl⟩
    refine g_if_eq X 15 d_R_paths_5 (by decide) (fun q => absurd q (by decide)) (fun _ => ?_)
    refine g_iload_n X 2 d_R_paths_8 rfl rfl ?_
    rcases bR_or x2 with q | ⟨r2, k2, rfl⟩
    · refine g_SP X KOk.n s_R_38 (c_R_isReg_x htr q) d_R_paths_9 rfl ?_ ?_
      · exact ⟨Nat.le_of_ble_eq_true rfl, Nat.le_of_ble_eq_true rfl, Nat.le_of_ble_eq_true rfl, Nat.le_of_ble_eq_true rfl⟩
      refine g_if_ne X 19 d_R_paths_12 (by decide) (fun q => absurd q (by decide)) (fun _ => ?_)
      refine g_iconst X (v := nI 1) d_R_paths_15 (by decide) ?_
      refine g_goto X 32 d_R_paths_16 (by decide) ?_
      refine p_thrown X hi d_R_paths_32 ?_
      refine g_aload_n X 0 d_R_paths_35 rfl rfl ?_
      refine q_thrown X d_R_paths_36 ?_
      refine g_if_le X 44 d_R_paths_39 (by decide) (fun q => absurd q (by decide)) (fun _ => ?_)
      refine g_iconst X (v := nI 0) d_R_paths_42 (by decide) ?_
      exact g_iret X KOk.n d_R_paths_43 ⟨rfl, rfl⟩
    · refine g_SP X KOk.n s_R_38 (c_R_isReg htr k2) d_R_paths_9 rfl ?_ ?_
      · exact ⟨Nat.le_of_ble_eq_true rfl, Nat.le_of_ble_eq_true rfl, Nat.le_of_ble_eq_true rfl, Nat.le_of_ble_eq_true rfl⟩
      refine g_if_ne X 19 d_R_paths_12 (by decide) (fun _ => ?_) (fun q => absurd q (by decide))
      exact absurd h (by
        rintro (q | q)
        · exact bR_no k1 q
        · exact bR_no k2 q)
set_option maxHeartbeats 4000000 in
set_option maxRecDepth 100000 in
theorem c_R_paths_x2 {l : Launch} (htr : l.stackTraces = false) {δ : EX} {b : Nat → Nat} (hi : In7 b) {th wd hg : Nat} {s : SS} {w : WS} {to a : Nat} (hto : to < 6) (ha : a < 6) (h8 : ∀ r, r < 6 → s.1 r ≤ 8 ∧ s.2.1 r ≤ 8) (hsq : ¬ s.1 a = s.2.1 a) : CTN l y_R_paths cw_R_paths (RM 2) δ (Br b) (rl δ b th wd hg s w) [.ref (b 0), .int (nI to), .int (nI a)] (some (.int 0)) (rl δ b 2 wd hg s w) := by
  refine CT.ofN (lv := [(0, .ref (b 0)), (1, .int (nI to)), (2, .int (nI a))]) (Or.inl ⟨rfl, rfl⟩) (by decide) htr rfl (Nat.le_of_ble_eq_true rfl) (fun κ hl X => ?_)
  subst hl
  refine g_aload_n X 0 d_R_paths_0 rfl rfl ?_
  refine g_iload_n X 1 d_R_paths_1 rfl rfl ?_
  refine g_SP X KOk.n s_R_38 (c_R_isReg htr hto) d_R_paths_2 rfl ?_ ?_
  · exact ⟨Nat.le_of_ble_eq_true rfl, Nat.le_of_ble_eq_true rfl, Nat.le_of_ble_eq_true rfl, Nat.le_of_ble_eq_true rfl⟩
  refine g_if_eq X 15 d_R_paths_5 (by decide) (fun q => absurd q (by decide)) (fun _ => ?_)
  refine g_iload_n X 2 d_R_paths_8 rfl rfl ?_
  refine g_SP X KOk.n s_R_38 (c_R_isReg htr ha) d_R_paths_9 rfl ?_ ?_
  · exact ⟨Nat.le_of_ble_eq_true rfl, Nat.le_of_ble_eq_true rfl, Nat.le_of_ble_eq_true rfl, Nat.le_of_ble_eq_true rfl⟩
  refine g_if_ne X 19 d_R_paths_12 (by decide) (fun _ => ?_) (fun q => absurd q (by decide))
  refine g_aload_n X 0 d_R_paths_19 rfl rfl ?_
  refine g_iload_n X 2 d_R_paths_20 rfl rfl ?_
  refine g_VP X KOk.n v_R_105 (q0 := 0) rfl (ci := 2) rfl (c_R_isSq_f htr ha h8 hsq) d_R_paths_21 rfl ?_ ?_
  · exact ⟨Nat.le_of_ble_eq_true rfl, Nat.le_of_ble_eq_true rfl, Nat.le_of_ble_eq_true rfl, Nat.le_of_ble_eq_true rfl⟩
  refine g_if_ne X 31 d_R_paths_24 (by decide) (fun q => absurd q (by decide)) (fun _ => ?_)
  refine g_iconst X (v := nI 2) d_R_paths_27 (by decide) ?_
  refine g_goto X 32 d_R_paths_28 (by decide) ?_
  refine p_thrown X hi d_R_paths_32 ?_
  refine g_aload_n X 0 d_R_paths_35 rfl rfl ?_
  refine q_thrown X d_R_paths_36 ?_
  refine g_if_le X 44 d_R_paths_39 (by decide) (fun q => absurd q (by decide)) (fun _ => ?_)
  refine g_iconst X (v := nI 0) d_R_paths_42 (by decide) ?_
  exact g_iret X KOk.n d_R_paths_43 ⟨rfl, rfl⟩
end RA4
