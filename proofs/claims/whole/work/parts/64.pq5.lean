/-! single registers changed; levels -/
section PQ5
variable {M : DS} {s : SS}
theorem Rel_up (h : Rel M s) {r : Nat} {S : Mx} {s' : SS} (h1 : ∀ q, ¬ q = r → s'.1 q = s.1 q ∧ s'.2.1 q = s.2.1 q) (h2 : ∀ q p, q < 6 → p < 64 → ¬ q = r → s'.2.2.1 (64 * q + p) = s.2.2.1 (64 * q + p) ∧ s'.2.2.2 (64 * q + p) = s.2.2.2 (64 * q + p)) (h3 : S.1 = s'.1 r ∧ S.2.1 = s'.2.1 r ∧ (1 ≤ s'.1 r ∧ s'.1 r ≤ 8 ∧ 1 ≤ s'.2.1 r ∧ s'.2.1 r ≤ 8) ∧ ∀ p, p < 64 → Pl S (fun p => s'.2.2.1 (64 * r + p)) (fun p => s'.2.2.2 (64 * r + p)) (s'.1 r) (s'.2.1 r) p) : Rel (va_up M r S) s' := by
  intro q hq
  by_cases e : q = r
  · subst e
    have e1 : va_up M q S q = S := by simp [va_up]
    rw [e1]
    exact h3
  · have e1 : va_up M r S q = M q := by simp [va_up, e]
    rw [e1, (h1 q e).1, (h1 q e).2]
    have k := h q hq
    refine ⟨k.1, k.2.1, k.2.2.1, fun p hp => ?_⟩
    have k2 := k.2.2.2 p hp
    simp only [Pl] at k2 ⊢
    rw [(h2 q p hq hp e).1, (h2 q p hq hp e).2]
    exact k2
theorem cl_at (r : Nat) : ∀ (n i : Nat) (h : Nat → Bool) (q : Nat), fl (clj r) i n h q = if 64 * r + i ≤ q ∧ q < 64 * r + i + n then false else h q
  | 0, i, h, q => by
    show h q = _
    rw [if_neg (by omega)]
  | n + 1, i, h, q => by
    show fl (clj r) (i + 1) n (clj r i h) q = _
    rw [cl_at r n (i + 1) (clj r i h) q]
    by_cases h1 : q = 64 * r + i
    · subst h1
      rw [if_neg (by omega), if_pos (by omega)]
      simp [clj, va_up]
    · by_cases h2 : 64 * r + (i + 1) ≤ q ∧ q < 64 * r + (i + 1) + n
      · rw [if_pos h2, if_pos (by omega)]
      · rw [if_neg h2, if_neg (by omega)]
        simp [clj, va_up, h1]
theorem r_shape (h : Rel M s) {r m n : Nat} (h1 : 1 ≤ m) (h2 : m ≤ 8) (h3 : 1 ≤ n) (h4 : n ≤ 8) : Rel (va_up M r (mClear (M r) m n)) (shS s r m n) := by
  have a1 : (shS s r m n).1 r = m := by simp [shS, va_up]
  have a2 : (shS s r m n).2.1 r = n := by simp [shS, va_up]
  have a3 : ∀ q, (shS s r m n).2.2.1 q = if 64 * r ≤ q ∧ q < 64 * r + 64 then false else s.2.2.1 q := fun q => cl_at r 64 0 s.2.2.1 q
  refine Rel_up h (fun q e => ⟨by simp [shS, va_up, e], by simp [shS, va_up, e]⟩) (fun q p hq hp e => ⟨?_, rfl⟩) ⟨a1.symm, a2.symm, by rw [a1, a2]; exact ⟨h1, h2, h3, h4⟩, fun p hp => ?_⟩
  · rw [a3, if_neg (by omega)]
  · simp only [Pl]
    rw [clear_no hp, a3, if_pos (by omega)]
    exact ⟨rfl, fun z => by cases z⟩
theorem r_put (h : Rel M s) {r i j : Nat} {v : Int64} (hr : r < 6) (hi : i < s.1 r) (hj : j < s.2.1 r) (hv : inR v = true) : Rel (va_up M r (mEnter (M r) (8 * i + j) v)) (s.1, s.2.1, va_up s.2.2.1 (64 * r + 8 * i + j) true, vp_updL s.2.2.2 (64 * r + 8 * i + j) v) := by
  have k := h r hr
  have b := k.2.2.1
  refine Rel_up h (fun q e => ⟨rfl, rfl⟩) (fun q p hq hp e => ?_) ⟨k.1, k.2.1, k.2.2.1, fun p hp => ?_⟩
  · have e1 : ¬ 64 * q + p = 64 * r + 8 * i + j := by omega
    simp [va_up, vp_updL, e1]
  · have k2 := k.2.2.2 p hp
    simp only [Pl] at k2 ⊢
    rw [has_e, val_e]
    by_cases e : p = 8 * i + j
    · subst e
      have e1 : 64 * r + (8 * i + j) = 64 * r + 8 * i + j := by omega
      have e2 : (8 * i + j) / 8 = i := by omega
      have e3 : (8 * i + j) % 8 = j := by omega
      simp [va_up, vp_updL, e1, hv, e2, e3, hi, hj]
    · have e1 : ¬ 64 * r + p = 64 * r + 8 * i + j := by omega
      simp only [va_up, vp_updL, if_neg e, if_neg e1]
      exact k2
theorem r_drop (h : Rel M s) {r i j : Nat} (hr : r < 6) (hi : i < s.1 r) (hj : j < s.2.1 r) : Rel (va_up M r (mRem (M r) (8 * i + j))) (s.1, s.2.1, va_up s.2.2.1 (64 * r + 8 * i + j) false, s.2.2.2) := by
  have k := h r hr
  have b := k.2.2.1
  refine Rel_up h (fun q e => ⟨rfl, rfl⟩) (fun q p hq hp e => ?_) ⟨k.1, k.2.1, k.2.2.1, fun p hp => ?_⟩
  · have e1 : ¬ 64 * q + p = 64 * r + 8 * i + j := by omega
    simp [va_up, e1]
  · have k2 := k.2.2.2 p hp
    simp only [Pl] at k2 ⊢
    rw [has_r, val_r]
    by_cases e : p = 8 * i + j
    · subst e
      have e1 : 64 * r + (8 * i + j) = 64 * r + 8 * i + j := by omega
      simp [va_up, e1]
    · have e1 : ¬ 64 * r + p = 64 * r + 8 * i + j := by omega
      simp only [va_up, if_neg e, if_neg e1]
      exact k2
/-! loops that go on for good -/
theorem fl_app {σ : Type} (f : Nat → σ → σ) : ∀ (n m i : Nat) (s : σ), fl f i (n + m) s = fl f (i + n) m (fl f i n s)
  | 0, m, i, s => by rw [Nat.zero_add]; rfl
  | n + 1, m, i, s => by
    rw [Nat.add_right_comm n 1 m]
    show fl f (i + 1) (n + m) (f i s) = fl f (i + (n + 1)) m (fl f (i + 1) n (f i s))
    rw [fl_app f n m (i + 1) (f i s), Nat.add_right_comm i 1 n]
    rfl
theorem fl_pres {σ : Type} {f : Nat → σ → σ} {P : σ → Prop} {N : Nat} (st : ∀ i s, i < N → P s → P (f i s)) : ∀ (n i : Nat) (s : σ), i + n ≤ N → P s → P (fl f i n s)
  | 0, _, _, _, h => h
  | n + 1, i, s, hn, h => fl_pres st n (i + 1) (f i s) (by omega) (st i s (by omega) h)
theorem fl_fix {σ : Type} {f : Nat → σ → σ} {s : σ} : ∀ (n i : Nat), (∀ j, i ≤ j → j < i + n → f j s = s) → fl f i n s = s
  | 0, _, _ => rfl
  | n + 1, i, h => by
    show fl f (i + 1) n (f i s) = s
    rw [h i (by omega) (by omega)]
    exact fl_fix n (i + 1) (fun j h1 h2 => h j (by omega) (by omega))
theorem sim2 {σ τ : Type} {f : Nat → σ → σ} {g : Nat → τ → τ} (I : σ → τ → Prop) {N : Nat} (st : ∀ i s t, i < N → I s t → I (f i s) (g i t)) : ∀ (n i : Nat) (s : σ) (t : τ), i + n ≤ N → I s t → I (fl f i n s) (fl g i n t)
  | 0, _, _, _, _, h => h
  | n + 1, i, s, t, hn, h => sim2 I st n (i + 1) (f i s) (g i t) (by omega) (st i s t (by omega) h)
theorem cnt_up {f : Nat → Bool} {j : Nat} : ∀ n, j < n → f j = false → cnt (va_up f j true) n = cnt f n + 1
  | 0, h, _ => absurd h (by omega)
  | n + 1, h, hj => by
    show cnt (va_up f j true) n + _ = cnt f n + _ + 1
    by_cases e : j = n
    · subst e
      have e1 : cnt (va_up f j true) j = cnt f j := cnt_cong j (fun p hp => by
        have : ¬ p = j := by omega
        simp [va_up, this])
      rw [e1, hj]
      simp [va_up]
    · rw [cnt_up n (by omega) hj]
      have e1 : va_up f j true n = f n := by
        have : ¬ n = j := fun q => e q.symm
        simp [va_up, this]
      rw [e1]
      omega
/-! levels -/
theorem lN_int {n : Nat} (h : n < 2 ^ 31) : (lN n).toInt = n := by
  unfold lN
  exact Int64.toInt_ofNat_of_lt (by omega)
theorem lN_inj {m n : Nat} (hm : m < 2 ^ 31) (hn : n < 2 ^ 31) (h : lN m = lN n) : m = n := by
  have := congrArg Int64.toInt h
  rw [lN_int hm, lN_int hn] at this
  omega
theorem lN_R {n : Nat} (h : n < 100) : inR (lN n) = true := by
  rw [inR_iff, lN_int (by omega)]
  omega
theorem q_li (h : Rel M s) {a lev i n : Nat} (ha : a < 6) (hn : n ≤ 8) (hlev : lev < 8) (hi : i < n) (hG : (M a).2.1 = n) {S : Mx} {w : WS} (hS : MW S w 1 n) : MW (nlI (M a) lev i S) (vri s a n lev i w) 1 n := by
  have p0 := hS.2.2 i (by omega)
  simp only [Pl] at p0
  unfold nlI vri
  rw [Nat.mul_zero, Nat.zero_add, nI_l (by omega), hG]
  by_cases c : mHas S i = true ∧ mVal S i = lN lev
  · rw [if_pos c]
    have hw : w.2.1 i = true ∧ w.2.2 i = lN lev := ⟨by rw [← p0.1]; exact c.1, by rw [← (p0.2 c.1).1]; exact c.2⟩
    refine (sim2 (f := nbj (M a) i (lev + 1)) (g := vrj s a lev i) (fun S w => MW S w 1 n ∧ w.2.1 i = true ∧ w.2.2 i = lN lev) (N := n) ?_ n 0 S w (by omega) ⟨hS, hw⟩).1
    rintro j S w hj ⟨hS, w1, w2⟩
    have q := h.pl (p := 8 * i + j) ha (by omega)
    rw [← Nat.add_assoc] at q
    have pj := (hS.2.2 j (by omega)).1
    unfold nbj vrj
    rw [Nat.mul_zero, Nat.zero_add, nI_l (by omega)]
    by_cases c2 : mHas (M a) (8 * i + j) = true ∧ mHas S j = false
    · have ej : ¬ i = j := fun e => by
        subst e
        rw [pj, w1] at c2
        cases c2.2
      rw [if_pos c2, if_pos ⟨w1, w2, by rw [← q.1]; exact c2.1, by rw [← pj]; exact c2.2⟩]
      refine ⟨MW_e (by omega) (by omega) (lN_R (by omega)) hS, ?_, ?_⟩
      · rw [te_k, if_neg ej]
        exact w1
      · rw [md_k, if_neg ej]
        exact w2
    · rw [if_neg c2, if_neg (fun z => c2 ⟨by rw [q.1]; exact z.2.2.1, by rw [pj]; exact z.2.2.2⟩)]
      exact ⟨hS, w1, w2⟩
  · rw [if_neg c]
    have e : fl (vrj s a lev i) 0 n w = w := fl_fix n 0 (fun j _ _ => by
      unfold vrj
      rw [if_neg (fun z => ?_)]
      have z1 : mHas S i = true := by rw [p0.1]; exact z.1
      exact c ⟨z1, by rw [(p0.2 z1).1]; exact z.2.1⟩)
    rw [e]
    exact hS
/-- one round: nothing new, or one vertex more -/
theorem vr_gr {s : SS} {a n r : Nat} {w : WS} : (vrr s a n r w = w ∨ cnt w.2.1 n < cnt (vrr s a n r w).2.1 n) ∧ ((∀ q, q < n → w.2.1 q = true → ∃ l, l ≤ r ∧ w.2.2 q = lN l) → ∀ q, q < n → (vrr s a n r w).2.1 q = true → ∃ l, l ≤ r + 1 ∧ (vrr s a n r w).2.2 q = lN l) := by
  have key : ∀ W, (W = w ∨ cnt w.2.1 n < cnt W.2.1 n) ∧ ((∀ q, q < n → w.2.1 q = true → ∃ l, l ≤ r ∧ w.2.2 q = lN l) → ∀ q, q < n → W.2.1 q = true → ∃ l, l ≤ r + 1 ∧ W.2.2 q = lN l) → ∀ i j, j < n → (vrj s a r i j W = w ∨ cnt w.2.1 n < cnt (vrj s a r i j W).2.1 n) ∧ ((∀ q, q < n → w.2.1 q = true → ∃ l, l ≤ r ∧ w.2.2 q = lN l) → ∀ q, q < n → (vrj s a r i j W).2.1 q = true → ∃ l, l ≤ r + 1 ∧ (vrj s a r i j W).2.2 q = lN l) := by
    intro W hW i j hj
    unfold vrj
    split
    · rename_i c
      refine ⟨Or.inr ?_, fun h0 q hq hq2 => ?_⟩
      · show _ < cnt (va_up W.2.1 j true) n
        rw [cnt_up n hj c.2.2.2]
        rcases hW.1 with e | e
        · rw [e]
          omega
        · omega
      · rw [te_k] at hq2
        rw [md_k]
        by_cases e : q = j
        · rw [if_pos e]
          exact ⟨r + 1, Nat.le_refl _, rfl⟩
        · rw [if_neg e] at hq2 ⊢
          exact hW.2 h0 q hq hq2
    · exact hW
  unfold vrr
  refine fl_pres (P := fun W => (W = w ∨ cnt w.2.1 n < cnt W.2.1 n) ∧ ((∀ q, q < n → w.2.1 q = true → ∃ l, l ≤ r ∧ w.2.2 q = lN l) → ∀ q, q < n → W.2.1 q = true → ∃ l, l ≤ r + 1 ∧ W.2.2 q = lN l)) (N := n) (fun i W _ hW => ?_) n 0 w (by omega) ⟨Or.inl rfl, fun h0 q hq hq2 => ?_⟩
  · unfold vri
    exact fl_pres (P := fun W => (W = w ∨ cnt w.2.1 n < cnt W.2.1 n) ∧ ((∀ q, q < n → w.2.1 q = true → ∃ l, l ≤ r ∧ w.2.2 q = lN l) → ∀ q, q < n → W.2.1 q = true → ∃ l, l ≤ r + 1 ∧ W.2.2 q = lN l)) (N := n) (fun j W hj hW => key W hW i j hj) n 0 W (by omega) hW
  · obtain ⟨l, h1, h2⟩ := h0 q hq hq2
    exact ⟨l, by omega, h2⟩
/-- a round that finds nobody -/
theorem vr_no {s : SS} {a n r : Nat} {w : WS} (hr : r < 8) (h : ∀ q, q < n → w.2.1 q = true → ∃ l, l < r ∧ w.2.2 q = lN l) : vrr s a n r w = w := by
  unfold vrr
  refine fl_fix n 0 (fun i _ hi => ?_)
  unfold vri
  refine fl_fix n 0 (fun j _ hj => ?_)
  unfold vrj
  rw [if_neg (fun z => ?_)]
  obtain ⟨l, h1, h2⟩ := h i (by omega) z.1
  rw [z.2.1] at h2
  have := lN_inj (by omega) (by omega) h2
  omega
theorem vr_k {s : SS} {a n so : Nat} {w : WS} (hn : n ≤ 8) (hso : so < n) (h0 : ∀ p, p < 64 → w.2.1 p = false) : ∀ k, k ≤ n → ((k + 1 ≤ cnt (fl (vrr s a n) 0 k (mkS w so 0)).2.1 n ∧ ∀ q, q < n → (fl (vrr s a n) 0 k (mkS w so 0)).2.1 q = true → ∃ l, l ≤ k ∧ (fl (vrr s a n) 0 k (mkS w so 0)).2.2 q = lN l) ∨ ∀ q, q < n → (fl (vrr s a n) 0 k (mkS w so 0)).2.1 q = true → ∃ l, l < k ∧ (fl (vrr s a n) 0 k (mkS w so 0)).2.2 q = lN l)
  | 0, _ => by
    left
    refine ⟨?_, fun q hq hq2 => ?_⟩
    · show 1 ≤ cnt (va_up w.2.1 so true) n
      rw [cnt_up n hso (h0 so (by omega))]
      omega
    · have hq2 : (mkS w so 0).2.1 q = true := hq2
      rw [te_k] at hq2
      by_cases e : q = so
      · refine ⟨0, Nat.le_refl _, ?_⟩
        show (mkS w so 0).2.2 q = lN 0
        rw [md_k, if_pos e]
        rfl
      · rw [if_neg e, h0 q (by omega)] at hq2
        cases hq2
  | k + 1, hk => by
    have ih := vr_k (s := s) (a := a) hn hso h0 k (by omega)
    have e : fl (vrr s a n) 0 (k + 1) (mkS w so 0) = vrr s a n k (fl (vrr s a n) 0 k (mkS w so 0)) := by
      rw [fl_app, Nat.zero_add]
      rfl
    rw [e]
    generalize fl (vrr s a n) 0 k (mkS w so 0) = W at ih ⊢
    have g := vr_gr (s := s) (a := a) (n := n) (r := k) (w := W)
    rcases ih with ⟨i1, i2⟩ | i1
    · rcases g.1 with e | e
      · right
        rw [e]
        intro q hq hq2
        obtain ⟨l, h1, h2⟩ := i2 q hq hq2
        exact ⟨l, by omega, h2⟩
      · left
        exact ⟨by omega, g.2 i2⟩
    · right
      rw [vr_no (by omega) i1]
      intro q hq hq2
      obtain ⟨l, h1, h2⟩ := i1 q hq hq2
      exact ⟨l, by omega, h2⟩
theorem q_lv (h : Rel M s) {a v : Nat} (ha : a < 6) (hsq : s.1 a = s.2.1 a) (hv : v < s.1 a) (F : Mx) (w : WS) : MW (fl (lvI (M a)) 0 (M a).1 (mEnter (mClear F 1 (M a).2.1) (8 * 0 + v) 0)) (vrS s a v (bgS w)) 1 (s.2.1 a) := by
  have kk := h.sh ha
  have en : (M a).1 = s.2.1 a := by rw [kk.1, hsq]
  have e8 : s.2.1 a ≤ 8 := by rw [← kk.2.1]; exact kk.2.2.2
  rw [en, kk.2.1, Nat.mul_zero, Nat.zero_add]
  have st : MW (fl (lvI (M a)) 0 (s.2.1 a) (mEnter (mClear F 1 (s.2.1 a)) v 0)) (fl (vrr s a (s.2.1 a)) 0 (s.2.1 a) (mkS (bgS w) v 0)) 1 (s.2.1 a) := by
    refine sim2 (fun S w => MW S w 1 (s.2.1 a)) (N := s.2.1 a) (fun lev S w hlev hS => ?_) (s.2.1 a) 0 _ _ (by omega) (MW_e (by omega) (by omega) inR_0 MW_0)
    unfold lvI vrr
    rw [en]
    exact sim2 (fun S w => MW S w 1 (s.2.1 a)) (N := s.2.1 a) (fun i S w hi hS => q_li h ha e8 (by omega) hi kk.2.1 hS) (s.2.1 a) 0 S w (by omega) hS
  have e : vrS s a v (bgS w) = fl (vrr s a (s.2.1 a)) 0 (s.2.1 a) (mkS (bgS w) v 0) := by
    unfold vrS
    obtain ⟨m, hm⟩ := Nat.exists_eq_add_of_le e8
    have e1 : fl (vrr s a (s.2.1 a)) 0 8 (mkS (bgS w) v 0) = fl (vrr s a (s.2.1 a)) 0 (s.2.1 a + m) (mkS (bgS w) v 0) := by rw [← hm]
    rw [e1, fl_app, Nat.zero_add]
    have f := vr_k (s := s) (a := a) (w := bgS w) e8 (by omega : v < s.2.1 a) (fun p hp => bg_at hp) (s.2.1 a) (Nat.le_refl _)
    rcases f with ⟨f1, _⟩ | f
    · have := cnt_le (fl (vrr s a (s.2.1 a)) 0 (s.2.1 a) (mkS (bgS w) v 0)).2.1 (s.2.1 a)
      omega
    · refine fl_fix m _ (fun r h1 h2 => vr_no (by omega) (fun q hq hq2 => ?_))
      obtain ⟨l, l1, l2⟩ := f q hq hq2
      exact ⟨l, by omega, l2⟩
  rw [e]
  exact st
end PQ5
