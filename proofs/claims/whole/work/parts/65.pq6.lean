/-! components, triangles -/
section PQ6
variable {M : DS} {s : SS}
theorem mi_eq {x y : Int64} : miL x y = if x < y then x else y := by
  show (if y < x then y else x) = if x < y then x else y
  by_cases h : y < x
  · rw [if_pos h, if_neg (Int64.not_lt.mpr (Int64.le_of_lt h))]
  · rw [if_neg h]
    by_cases h2 : x < y
    · rw [if_pos h2]
    · rw [if_neg h2]
      exact Int64.le_antisymm (Int64.not_lt.mp h) (Int64.not_lt.mp h2)
theorem mi_R {x y : Int64} (hx : inR x = true) (hy : inR y = true) : inR (if x < y then x else y) = true := by
  split
  · exact hx
  · exact hy
/-- both ends of an edge get the smaller number -/
theorem q_sp (h : Rel M s) {a i j n : Nat} (ha : a < 6) (hn : n ≤ 8) (hi : i < n) (hj : j < n) {S : Mx} {w : WS} (hS : MW S w 1 n ∧ ∀ q, q < n → w.2.1 q = true) : MW (spj (M a) i j S) (cpj s a i j w) 1 n ∧ ∀ q, q < n → (cpj s a i j w).2.1 q = true := by
  have q := h.pl (p := 8 * i + j) ha (by omega)
  rw [← Nat.add_assoc] at q
  obtain ⟨hS, ht⟩ := hS
  have pi := hS.2.2 i (by omega)
  have pj := hS.2.2 j (by omega)
  have pi2 := pi.2 (by rw [pi.1]; exact ht i hi)
  have pj2 := pj.2 (by rw [pj.1]; exact ht j hj)
  unfold spj cpj
  rw [Nat.mul_zero, Nat.zero_add, Nat.zero_add, mi_eq, pi2.1, pj2.1]
  by_cases c : mHas (M a) (8 * i + j) = true
  · rw [if_pos c, if_pos (show s.2.2.1 (64 * a + 8 * i + j) = true by rw [← q.1]; exact c)]
    rw [pi2.1] at pi2
    rw [pj2.1] at pj2
    have hr := mi_R pi2.2.1 pj2.2.1
    generalize (if w.2.2 i < w.2.2 j then w.2.2 i else w.2.2 j) = x at hr ⊢
    have m1 : MW (mEnter S i x) (mkS w i x) 1 n := MW_e (by omega) (by omega) hr hS
    have m2 : MW (mEnter (mEnter S i x) j x) (mkS (mkS w i x) j x) 1 n := MW_e (by omega) (by omega) hr m1
    refine ⟨⟨m2.1, m2.2.1, fun p hp => ?_⟩, ht⟩
    have k := m2.2.2 p hp
    have e : (mkS (mkS w i x) j x).2.1 p = w.2.1 p := by
      rw [te_k, te_k]
      by_cases e1 : p = j
      · rw [if_pos e1, e1, ht j hj]
      · rw [if_neg e1]
        by_cases e2 : p = i
        · rw [if_pos e2, e2, ht i hi]
        · rw [if_neg e2]
    simp only [Pl] at k ⊢
    rw [e] at k
    exact k
  · rw [if_neg c, if_neg (show ¬ s.2.2.1 (64 * a + 8 * i + j) = true by rw [← q.1]; exact c)]
    exact ⟨hS, ht⟩
theorem q_co0 {n : Nat} (hn : n ≤ 8) (F : Mx) (w : WS) : MW (fl coj 0 n (mClear F 1 n)) (fl cmj 0 n (bgS w)) 1 n ∧ ∀ q, q < n → (fl cmj 0 n (bgS w)).2.1 q = true := by
  constructor
  · refine sim2 (fun S w => MW S w 1 n) (N := n) (fun j S w hj hS => ?_) n 0 _ _ (by omega) MW_0
    unfold coj cmj
    rw [Nat.mul_zero, Nat.zero_add, nI_l (by omega)]
    exact MW_e (by omega) (by omega) (lN_R (by omega)) hS
  · have key : ∀ (k i : Nat) (w : WS) (q : Nat), (q < i → w.2.1 q = true) → q < i + k → (fl cmj i k w).2.1 q = true := by
      intro k
      induction k with
      | zero => intro i w q h1 h2; exact h1 (by omega)
      | succ k ih =>
        intro i w q h1 h2
        refine ih (i + 1) (cmj i w) q (fun h3 => ?_) (by omega)
        unfold cmj
        rw [te_k]
        by_cases e : q = i
        · rw [if_pos e]
        · rw [if_neg e]
          exact h1 (by omega)
    intro q hq
    exact key n 0 (bgS w) q (fun z => absurd z (by omega)) (by omega)
/-! how often: a set of vertices with small numbers grows, or is closed -/
def cT (w : WS) (x : Int64) (q : Nat) : Bool := decide (w.2.2 q ≤ x)
theorem cnt_mono {f g : Nat → Bool} : ∀ n, (∀ p, p < n → f p = true → g p = true) → cnt f n ≤ cnt g n
  | 0, _ => Nat.le_refl _
  | n + 1, h => by
    show cnt f n + _ ≤ cnt g n + _
    have := cnt_mono n (fun p hp => h p (by omega))
    have h2 := h n (by omega)
    cases hf : f n with
    | false => simp; omega
    | true => rw [h2 hf]; omega
theorem cnt_lt {f g : Nat → Bool} {q : Nat} (hf : f q = false) (hg : g q = true) : ∀ n, q < n → (∀ p, p < n → f p = true → g p = true) → cnt f n < cnt g n
  | 0, h, _ => absurd h (by omega)
  | n + 1, h, hm => by
    show cnt f n + _ < cnt g n + _
    by_cases e : q = n
    · subst e
      have := cnt_mono q (fun p hp => hm p (by omega))
      rw [hf, hg]
      simp
      omega
    · have := cnt_lt hf hg n (by omega) (fun p hp => hm p (by omega))
      have h2 := hm n (by omega)
      cases hf2 : f n with
      | false => simp; omega
      | true => rw [h2 hf2]; omega
theorem cnt_full {f : Nat → Bool} : ∀ n, n ≤ cnt f n → ∀ p, p < n → f p = true
  | 0, _, p, hp => absurd hp (by omega)
  | n + 1, h, p, hp => by
    have h : n + 1 ≤ cnt f n + (if f n = true then 1 else 0) := h
    have := cnt_le f n
    cases hf : f n with
    | false =>
      rw [hf] at h
      simp at h
      omega
    | true =>
      rw [hf] at h
      by_cases e : p = n
      · rw [e]
        exact hf
      · exact cnt_full n (by simp at h; omega) p (by omega)
/-- what one edge does to the set -/
theorem cp_T {s : SS} {a i j : Nat} {w : WS} {x : Int64} {q : Nat} : cT (cpj s a i j w) x q = if s.2.2.1 (64 * a + 8 * i + j) = true ∧ (q = i ∨ q = j) then (cT w x i || cT w x j) else cT w x q := by
  unfold cpj
  by_cases c : s.2.2.1 (64 * a + 8 * i + j) = true
  · rw [if_pos c]
    by_cases c2 : q = i ∨ q = j
    · rw [if_pos (show s.2.2.1 (64 * a + 8 * i + j) = true ∧ (q = i ∨ q = j) from ⟨c, c2⟩)]
      have e : cT (w.1, w.2.1, vp_updL (vp_updL w.2.2 i (if w.2.2 i < w.2.2 j then w.2.2 i else w.2.2 j)) j (if w.2.2 i < w.2.2 j then w.2.2 i else w.2.2 j)) x q = decide ((if w.2.2 i < w.2.2 j then w.2.2 i else w.2.2 j) ≤ x) := by
        unfold cT vp_updL
        rcases c2 with e | e
        · subst e
          simp only [if_true]
          by_cases e2 : q = j
          · simp only [if_pos e2]
          · simp only [if_neg e2]
        · subst e
          simp only [if_true]
      rw [e]
      unfold cT
      by_cases c3 : w.2.2 i < w.2.2 j
      · rw [if_pos c3]
        by_cases c4 : w.2.2 i ≤ x
        · rw [decide_eq_true c4]
          rfl
        · rw [decide_eq_false c4, decide_eq_false (fun z => c4 (Int64.le_trans (Int64.le_of_lt c3) z))]
          rfl
      · rw [if_neg c3]
        by_cases c4 : w.2.2 j ≤ x
        · rw [decide_eq_true c4, Bool.or_true]
        · rw [decide_eq_false c4, decide_eq_false (fun z => c4 (Int64.le_trans (Int64.not_lt.mp c3) z))]
          rfl
    · rw [if_neg (show ¬ (s.2.2.1 (64 * a + 8 * i + j) = true ∧ (q = i ∨ q = j)) from fun z => c2 z.2)]
      unfold cT vp_updL
      have e1 : ¬ q = i := fun z => c2 (Or.inl z)
      have e2 : ¬ q = j := fun z => c2 (Or.inr z)
      simp only [if_neg e1, if_neg e2]
  · rw [if_neg c, if_neg (fun z => c z.1)]
def cP (s : SS) (a n p : Nat) (w : WS) : WS := if p / 8 < n ∧ p % 8 < n then cpj s a (p / 8) (p % 8) w else w
theorem cpr_flat {s : SS} {a n r : Nat} {w : WS} (hn : n ≤ 8) : cpr s a n r w = fl (cP s a n) 0 64 w := by
  unfold cpr
  exact fl_nest2 (f := cpj s a) hn hn w
theorem cP_mono {s : SS} {a n p : Nat} {w : WS} {x : Int64} {q : Nat} (h : cT w x q = true) : cT (cP s a n p w) x q = true := by
  unfold cP
  split
  · rw [cp_T]
    split
    · rename_i c
      rcases c.2 with e | e
      · rw [← e, h]
        rfl
      · rw [← e, h, Bool.or_true]
    · exact h
  · exact h
theorem cF_mono {s : SS} {a n i k : Nat} {w : WS} {x : Int64} {q : Nat} (hk : i + k ≤ 64) (h : cT w x q = true) : cT (fl (cP s a n) i k w) x q = true :=
  fl_pres (P := fun w => cT w x q = true) (N := 64) (fun _ _ _ h => cP_mono h) k i w hk h
/-- no edge leaves the set -/
def cC (s : SS) (a n : Nat) (w : WS) (x : Int64) : Prop := ∀ i j, i < n → j < n → s.2.2.1 (64 * a + 8 * i + j) = true → cT w x i = cT w x j
theorem cC_step {s : SS} {a n r : Nat} {w : WS} {x : Int64} (hn : n ≤ 8) (h : cC s a n w x) : ∀ q, cT (cpr s a n r w) x q = cT w x q := by
  rw [cpr_flat hn]
  refine fl_pres (P := fun W => ∀ q, cT W x q = cT w x q) (N := 64) (fun p W _ hW q => ?_) 64 0 w (by omega) (fun _ => rfl)
  unfold cP
  split
  · rename_i c
    rw [cp_T]
    split
    · rename_i c2
      have e := h (p / 8) (p % 8) c.1 c.2 c2.1
      rw [hW, hW]
      rcases c2.2 with e1 | e1
      · rw [e1, ← e, Bool.or_self]
      · rw [e1, e, Bool.or_self]
    · exact hW q
  · exact hW q
theorem cC_grow {s : SS} {a n r : Nat} {w : WS} {x : Int64} (hn : n ≤ 8) (h : ¬ cC s a n w x) : cnt (cT w x) n < cnt (cT (cpr s a n r w) x) n := by
  have mono : ∀ q, cT w x q = true → cT (cpr s a n r w) x q = true := by
    intro q hq
    rw [cpr_flat hn]
    exact cF_mono (by omega) hq
  have : ∃ i j, i < n ∧ j < n ∧ s.2.2.1 (64 * a + 8 * i + j) = true ∧ ¬ cT w x i = cT w x j := by
    apply Classical.byContradiction
    intro g
    apply h
    intro i j hi hj he
    apply Classical.byContradiction
    intro g2
    exact g ⟨i, j, hi, hj, he, g2⟩
  obtain ⟨i, j, hi, hj, he, hne⟩ := this
  have hp : cpr s a n r w = fl (cP s a n) (8 * i + j + 1) (64 - (8 * i + j + 1)) (cP s a n (8 * i + j) (fl (cP s a n) 0 (8 * i + j) w)) := by
    rw [cpr_flat hn]
    have e : 64 = (8 * i + j) + (1 + (64 - (8 * i + j + 1))) := by omega
    have e2 : fl (cP s a n) 0 64 w = fl (cP s a n) 0 ((8 * i + j) + (1 + (64 - (8 * i + j + 1)))) w := by rw [← e]
    rw [e2, fl_app, fl_app, Nat.zero_add]
    rfl
  have both : ∀ q, (q = i ∨ q = j) → cT (cpr s a n r w) x q = true := by
    intro q hq
    rw [hp]
    refine cF_mono (by omega) ?_
    have mi : cT w x i = true → cT (fl (cP s a n) 0 (8 * i + j) w) x i = true := fun z => cF_mono (by omega) z
    have mj : cT w x j = true → cT (fl (cP s a n) 0 (8 * i + j) w) x j = true := fun z => cF_mono (by omega) z
    generalize fl (cP s a n) 0 (8 * i + j) w = W at mi mj ⊢
    unfold cP
    have e1 : (8 * i + j) / 8 = i := by omega
    have e2 : (8 * i + j) % 8 = j := by omega
    rw [e1, e2, if_pos ⟨hi, hj⟩, cp_T, if_pos (show s.2.2.1 (64 * a + 8 * i + j) = true ∧ (q = i ∨ q = j) from ⟨he, hq⟩)]
    cases ci : cT w x i with
    | true =>
      rw [mi ci]
      rfl
    | false =>
      cases cj : cT w x j with
      | true => rw [mj cj, Bool.or_true]
      | false => rw [ci, cj] at hne; exact absurd rfl hne
  cases ci : cT w x i with
  | false => exact cnt_lt ci (both i (Or.inl rfl)) n hi (fun p _ hp => mono p hp)
  | true =>
    cases cj : cT w x j with
    | false => exact cnt_lt cj (both j (Or.inr rfl)) n hj (fun p _ hp => mono p hp)
    | true => rw [ci, cj] at hne; exact absurd rfl hne
theorem cC_k {s : SS} {a n : Nat} {w : WS} {x : Int64} (hn : n ≤ 8) : ∀ k, cC s a n (fl (cpr s a n) 0 k w) x ∨ k ≤ cnt (cT (fl (cpr s a n) 0 k w) x) n
  | 0 => Or.inr (Nat.zero_le _)
  | k + 1 => by
    have ih := cC_k (s := s) (a := a) (w := w) (x := x) hn k
    have e : fl (cpr s a n) 0 (k + 1) w = cpr s a n k (fl (cpr s a n) 0 k w) := by
      rw [fl_app, Nat.zero_add]
      rfl
    rw [e]
    generalize fl (cpr s a n) 0 k w = W at ih ⊢
    by_cases c : cC s a n W x
    · left
      intro i j hi hj he
      rw [cC_step hn c, cC_step hn c]
      exact c i j hi hj he
    · right
      rcases ih with g | g
      · exact absurd g c
      · have := cC_grow (r := k) hn c
        omega
theorem cp_end {s : SS} {a n : Nat} {w : WS} (hn : n ≤ 8) : ∀ i j, i < n → j < n → s.2.2.1 (64 * a + 8 * i + j) = true → (fl (cpr s a n) 0 n w).2.2 i = (fl (cpr s a n) 0 n w).2.2 j := by
  have cl : ∀ x, cC s a n (fl (cpr s a n) 0 n w) x := by
    intro x
    rcases cC_k (s := s) (a := a) (w := w) (x := x) hn n with g | g
    · exact g
    · intro i j hi hj _
      rw [cnt_full n g i hi, cnt_full n g j hj]
  intro i j hi hj he
  generalize fl (cpr s a n) 0 n w = W at cl ⊢
  have c1 := cl (W.2.2 i) i j hi hj he
  have c2 := cl (W.2.2 j) i j hi hj he
  unfold cT at c1 c2
  rw [decide_eq_true (Int64.le_refl _)] at c1 c2
  exact Int64.le_antisymm (of_decide_eq_true c2) (of_decide_eq_true c1.symm)
theorem cp_fix {s : SS} {a n r : Nat} {w : WS} (h : ∀ i j, i < n → j < n → s.2.2.1 (64 * a + 8 * i + j) = true → w.2.2 i = w.2.2 j) : cpr s a n r w = w := by
  unfold cpr
  refine fl_fix n 0 (fun i _ hi => ?_)
  unfold cpi
  refine fl_fix n 0 (fun j _ hj => ?_)
  unfold cpj
  by_cases c : s.2.2.1 (64 * a + 8 * i + j) = true
  · rw [if_pos c]
    have e := h i j (by omega) (by omega) c
    have e2 : (if w.2.2 i < w.2.2 j then w.2.2 i else w.2.2 j) = w.2.2 j := by
      rw [e]
      split <;> rfl
    rw [e2]
    have e3 : vp_updL (vp_updL w.2.2 i (w.2.2 j)) j (w.2.2 j) = w.2.2 := by
      funext q
      unfold vp_updL
      by_cases q1 : q = j
      · rw [if_pos q1, q1]
      · rw [if_neg q1]
        by_cases q2 : q = i
        · rw [if_pos q2, q2, e]
        · rw [if_neg q2]
    rw [e3]
  · rw [if_neg c]
theorem q_co (h : Rel M s) {a : Nat} (ha : a < 6) (hsq : s.1 a = s.2.1 a) (F : Mx) (w : WS) : MW (fl (coI (M a)) 0 (M a).1 (fl coj 0 (M a).2.1 (mClear F 1 (M a).2.1))) (cpS s a (bgS w)) 1 (s.2.1 a) := by
  have kk := h.sh ha
  have en : (M a).1 = s.2.1 a := by rw [kk.1, hsq]
  have e8 : s.2.1 a ≤ 8 := by rw [← kk.2.1]; exact kk.2.2.2
  rw [en, kk.2.1]
  have st : MW (fl (coI (M a)) 0 (s.2.1 a) (fl coj 0 (s.2.1 a) (mClear F 1 (s.2.1 a)))) (fl (cpr s a (s.2.1 a)) 0 (s.2.1 a) (fl cmj 0 (s.2.1 a) (bgS w))) 1 (s.2.1 a) := by
    refine (sim2 (fun S w => MW S w 1 (s.2.1 a) ∧ ∀ q, q < s.2.1 a → w.2.1 q = true) (N := s.2.1 a) (fun r S w hr hS => ?_) (s.2.1 a) 0 _ _ (by omega) (q_co0 e8 F w)).1
    unfold coI cpr
    rw [en]
    refine sim2 (fun S w => MW S w 1 (s.2.1 a) ∧ ∀ q, q < s.2.1 a → w.2.1 q = true) (N := s.2.1 a) (fun i S w hi hS => ?_) (s.2.1 a) 0 S w (by omega) hS
    unfold spi cpi
    rw [kk.2.1]
    exact sim2 (fun S w => MW S w 1 (s.2.1 a) ∧ ∀ q, q < s.2.1 a → w.2.1 q = true) (N := s.2.1 a) (fun j S w hj hS => q_sp h ha e8 hi hj hS) (s.2.1 a) 0 S w (by omega) hS
  have e : cpS s a (bgS w) = fl (cpr s a (s.2.1 a)) 0 (s.2.1 a) (fl cmj 0 (s.2.1 a) (bgS w)) := by
    unfold cpS
    obtain ⟨m, hm⟩ := Nat.exists_eq_add_of_le e8
    have e1 : fl (cpr s a (s.2.1 a)) 0 8 (fl cmj 0 (s.2.1 a) (bgS w)) = fl (cpr s a (s.2.1 a)) 0 (s.2.1 a + m) (fl cmj 0 (s.2.1 a) (bgS w)) := by rw [← hm]
    rw [e1, fl_app, Nat.zero_add]
    exact fl_fix m _ (fun r _ _ => cp_fix (cp_end e8))
  rw [e]
  exact st
/-! triangles: sums in another order -/
def sm (f : Nat → Nat) : Nat → Nat
  | 0 => 0
  | n + 1 => sm f n + f n
theorem sm_cong {f g : Nat → Nat} : ∀ n, (∀ i, i < n → f i = g i) → sm f n = sm g n
  | 0, _ => rfl
  | n + 1, h => by
    show sm f n + f n = sm g n + g n
    rw [sm_cong n (fun i hi => h i (by omega)), h n (by omega)]
theorem sm_add {f g : Nat → Nat} : ∀ n, sm (fun i => f i + g i) n = sm f n + sm g n
  | 0 => rfl
  | n + 1 => by
    show sm (fun i => f i + g i) n + (f n + g n) = sm f n + f n + (sm g n + g n)
    rw [sm_add n]
    omega
theorem sm_zero : ∀ n, sm (fun _ => 0) n = 0
  | 0 => rfl
  | n + 1 => by
    show sm (fun _ => 0) n + 0 = 0
    rw [sm_zero n]
theorem sm_swap {f : Nat → Nat → Nat} {m : Nat} : ∀ n, sm (fun i => sm (f i) m) n = sm (fun j => sm (fun i => f i j) n) m
  | 0 => by
    show 0 = sm (fun j => 0) m
    rw [sm_zero]
  | n + 1 => by
    show sm (fun i => sm (f i) m) n + sm (f n) m = sm (fun j => sm (fun i => f i j) n + f n j) m
    rw [sm_add, sm_swap n]
theorem sm_if {c : Prop} [Decidable c] {f : Nat → Nat} {n : Nat} : (if c then sm f n else 0) = sm (fun i => if c then f i else 0) n := by
  by_cases h : c
  · simp only [if_pos h]
  · simp only [if_neg h, sm_zero]
theorem fl_sm {g : Nat → Nat → Nat} {f : Nat → Nat} (e : ∀ i z, g i z = z + f i) : ∀ (n i z : Nat), fl g i n z + sm f i = z + sm f (i + n)
  | 0, i, z => rfl
  | n + 1, i, z => by
    have k := fl_sm e n (i + 1) (g i z)
    have c : sm f (i + 1) = sm f i + f i := rfl
    have e1 : i + 1 + n = i + (n + 1) := by omega
    rw [c, e1] at k
    show fl g (i + 1) n (g i z) + sm f i = _
    rw [e] at k ⊢
    omega
theorem sm_split {f : Nat → Nat} {i : Nat} : ∀ m, sm (fun t => if i ≤ t then f t else 0) (i + m) + sm f i = sm f (i + m)
  | 0 => by
    have e : sm (fun t => if i ≤ t then f t else 0) i = sm (fun _ => 0) i := sm_cong i (fun t ht => if_neg (by omega))
    show sm (fun t => if i ≤ t then f t else 0) i + sm f i = sm f i
    rw [e, sm_zero]
    omega
  | m + 1 => by
    show sm (fun t => if i ≤ t then f t else 0) (i + m) + (if i ≤ i + m then f (i + m) else 0) + sm f i = sm f (i + m) + f (i + m)
    rw [if_pos (by omega)]
    have := sm_split (f := f) (i := i) m
    omega
theorem fl_up {g : Nat → Nat → Nat} {f : Nat → Nat} (e : ∀ i z, g i z = z + f i) {i n z : Nat} (h : i ≤ n) : fl g i (n - i) z = z + sm (fun t => if i ≤ t then f t else 0) n := by
  obtain ⟨m, rfl⟩ := Nat.exists_eq_add_of_le h
  have e1 : i + m - i = m := by omega
  rw [e1]
  have k := fl_sm e m i z
  have k2 := sm_split (f := f) (i := i) m
  omega
theorem sm_low {f : Nat → Nat} {t : Nat} : ∀ m, sm (fun i => if i < t then f i else 0) (t + m) = sm f t
  | 0 => sm_cong t (fun i hi => if_pos hi)
  | m + 1 => by
    show sm (fun i => if i < t then f i else 0) (t + m) + (if t + m < t then f (t + m) else 0) = sm f t
    rw [if_neg (by omega), sm_low m]
    rfl
theorem fl_lo {g : Nat → Nat → Nat} {f : Nat → Nat} (e : ∀ i z, g i z = z + f i) {t n z : Nat} (h : t ≤ n) : fl g 0 t z = z + sm (fun i => if i < t then f i else 0) n := by
  obtain ⟨m, rfl⟩ := Nat.exists_eq_add_of_le h
  rw [sm_low]
  have k := fl_sm e t 0 z
  have k2 : sm f 0 = 0 := rfl
  rw [k2, Nat.zero_add] at k
  exact k
theorem q_tg (h : Rel M s) {a : Nat} (ha : a < 6) (hsq : s.1 a = s.2.1 a) : fl (tgt (M a)) 0 (M a).1 0 = tqS s a := by
  have kk := h.sh ha
  rw [kk.1]
  have e8 : s.1 a ≤ 8 := (h.h8 a ha).1
  have hq : ∀ i j, i < s.1 a → j < s.1 a → mHas (M a) (8 * i + j) = s.2.2.1 (64 * a + 8 * i + j) := by
    intro i j hi hj
    have := (h.pl (p := 8 * i + j) ha (by omega)).1
    rw [← Nat.add_assoc] at this
    exact this
  have d : fl (tgt (M a)) 0 (s.1 a) 0 = sm (fun t => sm (fun j => if j < t then sm (fun i => if i < j then (if mHas (M a) (8 * j + i) = true ∧ mHas (M a) (8 * t + i) = true ∧ mHas (M a) (8 * t + j) = true then 1 else 0) else 0) (s.1 a) else 0) (s.1 a)) (s.1 a) := by
    have k := fl_sm (g := fun t z => if t < s.1 a then tgt (M a) t z else z + sm (fun j => if j < t then sm (fun i => if i < j then (if mHas (M a) (8 * j + i) = true ∧ mHas (M a) (8 * t + i) = true ∧ mHas (M a) (8 * t + j) = true then 1 else 0) else 0) (s.1 a) else 0) (s.1 a)) (f := fun t => sm (fun j => if j < t then sm (fun i => if i < j then (if mHas (M a) (8 * j + i) = true ∧ mHas (M a) (8 * t + i) = true ∧ mHas (M a) (8 * t + j) = true then 1 else 0) else 0) (s.1 a) else 0) (s.1 a)) ?_ (s.1 a) 0 0
    · have e1 : ∀ (n i z : Nat), i + n ≤ s.1 a → fl (fun t z => if t < s.1 a then tgt (M a) t z else z + sm (fun j => if j < t then sm (fun i => if i < j then (if mHas (M a) (8 * j + i) = true ∧ mHas (M a) (8 * t + i) = true ∧ mHas (M a) (8 * t + j) = true then 1 else 0) else 0) (s.1 a) else 0) (s.1 a)) i n z = fl (tgt (M a)) i n z := by
        intro n
        induction n with
        | zero => intro i z _; rfl
        | succ n ih =>
          intro i z hi
          show fl _ (i + 1) n (if i < s.1 a then tgt (M a) i z else _) = fl (tgt (M a)) (i + 1) n (tgt (M a) i z)
          rw [if_pos (by omega)]
          exact ih (i + 1) _ (by omega)
      rw [e1 _ _ _ (by omega)] at k
      have k2 : ∀ f, sm f 0 = 0 := fun _ => rfl
      rw [k2, Nat.zero_add, Nat.zero_add, Nat.add_zero] at k
      exact k
    · intro t z
      by_cases ht : t < s.1 a
      · simp only [if_pos ht]
        unfold tgt
        have k := fl_lo (g := fun j z => if j < s.1 a then tgj (M a) t j z else z + sm (fun i => if i < j then (if mHas (M a) (8 * j + i) = true ∧ mHas (M a) (8 * t + i) = true ∧ mHas (M a) (8 * t + j) = true then 1 else 0) else 0) (s.1 a)) (f := fun j => sm (fun i => if i < j then (if mHas (M a) (8 * j + i) = true ∧ mHas (M a) (8 * t + i) = true ∧ mHas (M a) (8 * t + j) = true then 1 else 0) else 0) (s.1 a)) ?_ (t := t) (n := s.1 a) (z := z) (by omega)
        · have e1 : ∀ (n i z : Nat), i + n ≤ s.1 a → fl (fun j z => if j < s.1 a then tgj (M a) t j z else z + sm (fun i => if i < j then (if mHas (M a) (8 * j + i) = true ∧ mHas (M a) (8 * t + i) = true ∧ mHas (M a) (8 * t + j) = true then 1 else 0) else 0) (s.1 a)) i n z = fl (tgj (M a) t) i n z := by
            intro n
            induction n with
            | zero => intro i z _; rfl
            | succ n ih =>
              intro i z hi
              show fl _ (i + 1) n (if i < s.1 a then tgj (M a) t i z else _) = fl (tgj (M a) t) (i + 1) n (tgj (M a) t i z)
              rw [if_pos (by omega)]
              exact ih (i + 1) _ (by omega)
          rw [e1 _ _ _ (by omega)] at k
          exact k
        · intro j z
          by_cases hj : j < s.1 a
          · simp only [if_pos hj]
            unfold tgj
            exact fl_lo (g := tgi (M a) t j) (f := fun i => if mHas (M a) (8 * j + i) = true ∧ mHas (M a) (8 * t + i) = true ∧ mHas (M a) (8 * t + j) = true then 1 else 0) (fun i z => by
              unfold tgi
              split <;> omega) (by omega)
          · simp only [if_neg hj]
      · simp only [if_neg ht]
  have r : tqS s a = sm (fun i => sm (fun j => if i + 1 ≤ j then sm (fun t => if j + 1 ≤ t then (if s.2.2.1 (64 * a + 8 * j + i) = true ∧ s.2.2.1 (64 * a + 8 * t + i) = true ∧ s.2.2.1 (64 * a + 8 * t + j) = true then 1 else 0) else 0) (s.1 a) else 0) (s.1 a)) (s.1 a) := by
    have e3 : ∀ i j z, j < s.1 a → tqj s a i j z = z + sm (fun t => if j + 1 ≤ t then (if s.2.2.1 (64 * a + 8 * j + i) = true ∧ s.2.2.1 (64 * a + 8 * t + i) = true ∧ s.2.2.1 (64 * a + 8 * t + j) = true then 1 else 0) else 0) (s.1 a) := by
      intro i j z hj
      unfold tqj
      exact fl_up (g := tqt s a i j) (f := fun t => if s.2.2.1 (64 * a + 8 * j + i) = true ∧ s.2.2.1 (64 * a + 8 * t + i) = true ∧ s.2.2.1 (64 * a + 8 * t + j) = true then 1 else 0) (fun t z => rfl) (by omega)
    have cong : ∀ (f g : Nat → Nat → Nat), (∀ i z, i < s.1 a → f i z = g i z) → ∀ (n i z : Nat), i + n ≤ s.1 a → fl f i n z = fl g i n z := by
      intro f g hfg n
      induction n with
      | zero => intro i z _; rfl
      | succ n ih =>
        intro i z hi
        show fl f (i + 1) n (f i z) = fl g (i + 1) n (g i z)
        rw [hfg i z (by omega)]
        exact ih (i + 1) _ (by omega)
    have e2 : ∀ i z, i < s.1 a → tqi s a i z = z + sm (fun j => if i + 1 ≤ j then sm (fun t => if j + 1 ≤ t then (if s.2.2.1 (64 * a + 8 * j + i) = true ∧ s.2.2.1 (64 * a + 8 * t + i) = true ∧ s.2.2.1 (64 * a + 8 * t + j) = true then 1 else 0) else 0) (s.1 a) else 0) (s.1 a) := by
      intro i z hi
      unfold tqi
      rw [cong (tqj s a i) (fun j z => z + sm (fun t => if j + 1 ≤ t then (if s.2.2.1 (64 * a + 8 * j + i) = true ∧ s.2.2.1 (64 * a + 8 * t + i) = true ∧ s.2.2.1 (64 * a + 8 * t + j) = true then 1 else 0) else 0) (s.1 a)) (fun j z hj => e3 i j z hj) _ _ _ (by omega)]
      exact fl_up (fun j z => rfl) (by omega)
    unfold tqS
    rw [cong (tqi s a) (fun i z => z + sm (fun j => if i + 1 ≤ j then sm (fun t => if j + 1 ≤ t then (if s.2.2.1 (64 * a + 8 * j + i) = true ∧ s.2.2.1 (64 * a + 8 * t + i) = true ∧ s.2.2.1 (64 * a + 8 * t + j) = true then 1 else 0) else 0) (s.1 a) else 0) (s.1 a)) e2 _ _ _ (by omega)]
    have k := fl_sm (g := fun i z => z + sm (fun j => if i + 1 ≤ j then sm (fun t => if j + 1 ≤ t then (if s.2.2.1 (64 * a + 8 * j + i) = true ∧ s.2.2.1 (64 * a + 8 * t + i) = true ∧ s.2.2.1 (64 * a + 8 * t + j) = true then 1 else 0) else 0) (s.1 a) else 0) (s.1 a)) (fun i z => rfl) (s.1 a) 0 0
    have k2 : ∀ f, sm f 0 = 0 := fun _ => rfl
    rw [k2, Nat.zero_add, Nat.zero_add, Nat.add_zero] at k
    exact k
  rw [d, r]
  -- t j i against i j t
  have l : sm (fun t => sm (fun j => if j < t then sm (fun i => if i < j then (if mHas (M a) (8 * j + i) = true ∧ mHas (M a) (8 * t + i) = true ∧ mHas (M a) (8 * t + j) = true then 1 else 0) else 0) (s.1 a) else 0) (s.1 a)) (s.1 a) = sm (fun t => sm (fun j => sm (fun i => if i < j ∧ j < t ∧ s.2.2.1 (64 * a + 8 * j + i) = true ∧ s.2.2.1 (64 * a + 8 * t + i) = true ∧ s.2.2.1 (64 * a + 8 * t + j) = true then 1 else 0) (s.1 a)) (s.1 a)) (s.1 a) := by
    refine sm_cong _ (fun t ht => sm_cong _ (fun j hj => ?_))
    rw [sm_if]
    refine sm_cong _ (fun i hi => ?_)
    rw [hq j i hj hi, hq t i ht hi, hq t j ht hj]
    by_cases c1 : j < t
    · by_cases c2 : i < j
      · simp only [c1, c2, true_and, if_true]
      · simp only [c1, c2, false_and, if_false, if_true]
    · simp only [c1, false_and, and_false, if_false]
  have rr : sm (fun i => sm (fun j => if i + 1 ≤ j then sm (fun t => if j + 1 ≤ t then (if s.2.2.1 (64 * a + 8 * j + i) = true ∧ s.2.2.1 (64 * a + 8 * t + i) = true ∧ s.2.2.1 (64 * a + 8 * t + j) = true then 1 else 0) else 0) (s.1 a) else 0) (s.1 a)) (s.1 a) = sm (fun i => sm (fun j => sm (fun t => if i < j ∧ j < t ∧ s.2.2.1 (64 * a + 8 * j + i) = true ∧ s.2.2.1 (64 * a + 8 * t + i) = true ∧ s.2.2.1 (64 * a + 8 * t + j) = true then 1 else 0) (s.1 a)) (s.1 a)) (s.1 a) := by
    refine sm_cong _ (fun i hi => sm_cong _ (fun j hj => ?_))
    rw [sm_if]
    refine sm_cong _ (fun t ht => ?_)
    by_cases c1 : i < j
    · rw [if_pos (show i + 1 ≤ j from c1)]
      by_cases c2 : j < t
      · rw [if_pos (show j + 1 ≤ t from c2)]
        simp only [c1, c2, true_and]
      · rw [if_neg (show ¬ j + 1 ≤ t from c2)]
        simp only [c2, false_and, and_false, if_false]
    · rw [if_neg (show ¬ i + 1 ≤ j from c1)]
      simp only [c1, false_and, if_false]
  rw [l, rr]
  rw [sm_swap (f := fun t j => sm (fun i => if i < j ∧ j < t ∧ s.2.2.1 (64 * a + 8 * j + i) = true ∧ s.2.2.1 (64 * a + 8 * t + i) = true ∧ s.2.2.1 (64 * a + 8 * t + j) = true then 1 else 0) (s.1 a))]
  rw [sm_swap (f := fun i j => sm (fun t => if i < j ∧ j < t ∧ s.2.2.1 (64 * a + 8 * j + i) = true ∧ s.2.2.1 (64 * a + 8 * t + i) = true ∧ s.2.2.1 (64 * a + 8 * t + j) = true then 1 else 0) (s.1 a))]
  refine sm_cong _ (fun j hj => ?_)
  exact sm_swap _
end PQ6
