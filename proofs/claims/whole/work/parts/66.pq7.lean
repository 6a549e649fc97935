/-! paths -/
section PQ7
variable {M : DS} {s : SS}
theorem add_int {x y : Int64} (h1 : -9223372036854775808 ≤ x.toInt + y.toInt) (h2 : x.toInt + y.toInt ≤ 9223372036854775807) : (x + y).toInt = x.toInt + y.toInt := by
  rw [Int64.toInt_add]
  exact Int.bmod_eq_of_le (by omega) (by omega)
theorem lt_int {x y : Int64} : x < y ↔ x.toInt < y.toInt := Int64.lt_iff_toInt_lt
theorem zero64 : (0 : Int64).toInt = 0 := by decide
/-- what is there lies between -B and B -/
def Bd (w : WS) (B : Int) : Prop := ∀ p, p < 64 → w.2.1 p = true → -B ≤ (w.2.2 p).toInt ∧ (w.2.2 p).toInt ≤ B
def RB (t : Nat) (w0 : WS) (B E : Int) (p : Nat) (w : WS) : Prop :=
  w.1 = w0.1 ∧ (∀ q, p ≤ q → w.2.1 q = w0.2.1 q ∧ w.2.2 q = w0.2.2 q) ∧
  (∀ q, q < 64 → w0.2.1 q = true → w.2.1 q = true ∧ (w.2.2 q).toInt ≤ (w0.2.2 q).toInt) ∧
  (∀ q, q < 64 → w.2.1 q = true → (w.2.2 q).toInt ≤ 2 * B ∧ -(2 * B + 4 * E) ≤ (w.2.2 q).toInt ∧ ((q / 8 = t ∨ q % 8 = t) → (w.2.2 q).toInt ≤ B ∧ -(B + 2 * E) ≤ (w.2.2 q).toInt) ∧ (q = 8 * t + t → -(2 * E) ≤ (w.2.2 q).toInt))
theorem RB_0 {t : Nat} {w : WS} {B E : Int} (hB : 0 ≤ B) (hE : 0 ≤ E) (hb : Bd w B) (ht : w.2.1 (8 * t + t) = true → -E ≤ (w.2.2 (8 * t + t)).toInt) : RB t w B E 0 w := by
  refine ⟨rfl, fun _ _ => ⟨rfl, rfl⟩, fun q _ h => ⟨h, Int.le_refl _⟩, fun q hq h => ?_⟩
  have k := hb q hq h
  refine ⟨by omega, by omega, fun _ => ⟨by omega, by omega⟩, fun e => ?_⟩
  subst e
  have := ht h
  omega
/-- the sum that a step looks at -/
theorem RB_sum {t : Nat} {w0 w : WS} {B E : Int} {p i j : Nat} (hO : 2 * B + 4 * E ≤ 9223372036854775807) (hB : 0 ≤ B) (hE : 0 ≤ E) (ht : t < 8) (hi : i < 8) (hj : j < 8) (h : RB t w0 B E p w) (h1 : w.2.1 (8 * i + t) = true) (h2 : w.2.1 (8 * t + j) = true) : (w.2.2 (8 * i + t) + w.2.2 (8 * t + j)).toInt = (w.2.2 (8 * i + t)).toInt + (w.2.2 (8 * t + j)).toInt ∧ (w.2.2 (8 * i + t)).toInt + (w.2.2 (8 * t + j)).toInt ≤ 2 * B ∧ -(2 * B + 4 * E) ≤ (w.2.2 (8 * i + t)).toInt + (w.2.2 (8 * t + j)).toInt := by
  have k1 := (h.2.2.2 (8 * i + t) (by omega) h1).2.2.1 (Or.inr (by omega))
  have k2 := (h.2.2.2 (8 * t + j) (by omega) h2).2.2.1 (Or.inl (by omega))
  exact ⟨add_int (by omega) (by omega), by omega, by omega⟩
theorem RB_k {t : Nat} {w0 w : WS} {B E : Int} {p : Nat} (h : RB t w0 B E p w) : RB t w0 B E (p + 1) w :=
  ⟨h.1, fun q hq => h.2.1 q (by omega), h.2.2⟩
theorem RB_s {t : Nat} {w0 w : WS} {B E : Int} {i j : Nat} (hO : 2 * B + 4 * E ≤ 9223372036854775807) (hB : 0 ≤ B) (hE : 0 ≤ E) (hb : Bd w0 B) (h9 : w0.2.1 (8 * t + t) = true → -E ≤ (w0.2.2 (8 * t + t)).toInt) (ht : t < 8) (hi : i < 8) (hj : j < 8) (h : RB t w0 B E (8 * i + j) w) : RB t w0 B E (8 * i + j + 1) (rxj t i j w) := by
  unfold rxj
  split
  · rename_i c
    have sm := RB_sum hO hB hE ht hi hj h c.1 c.2
    split
    · rename_i c2
      have hp := h.2.1 (8 * i + j) (Nat.le_refl _)
      refine ⟨h.1, fun q hq => ?_, fun q hq h0 => ?_, fun q hq h0 => ?_⟩
      · have e : ¬ q = 8 * i + j := by omega
        rw [te_k, md_k, if_neg e, if_neg e]
        exact h.2.1 q (by omega)
      · rw [te_k, md_k]
        by_cases e : q = 8 * i + j
        · subst e
          rw [if_pos rfl, if_pos rfl]
          refine ⟨rfl, ?_⟩
          rcases c2 with c2 | c2
          · rw [hp.1, h0] at c2
            cases c2
          · rw [← hp.2]
            have := lt_int.mp c2
            omega
        · rw [if_neg e, if_neg e]
          exact h.2.2.1 q hq h0
      · rw [te_k] at h0
        rw [md_k]
        by_cases e : q = 8 * i + j
        · subst e
          rw [if_pos rfl, sm.1]
          refine ⟨sm.2.1, sm.2.2, fun r => ?_, fun r => ?_⟩
          · rcases r with r | r
            · have e1 : i = t := by omega
              subst e1
              have b := hb (8 * i + j) (by omega) (by rw [← hp.1]; exact c.2)
              rw [← hp.2] at b
              have d := (h.2.2.2 (8 * i + i) (by omega) c.1).2.2.2 rfl
              refine ⟨?_, by omega⟩
              rcases c2 with c2 | c2
              · rw [c.2] at c2
                cases c2
              · have := lt_int.mp c2
                rw [sm.1] at this
                omega
            · have e1 : j = t := by omega
              subst e1
              have b := hb (8 * i + j) (by omega) (by rw [← hp.1]; exact c.1)
              rw [← hp.2] at b
              have d := (h.2.2.2 (8 * j + j) (by omega) c.2).2.2.2 rfl
              refine ⟨?_, by omega⟩
              rcases c2 with c2 | c2
              · rw [c.1] at c2
                cases c2
              · have := lt_int.mp c2
                rw [sm.1] at this
                omega
          · have e1 : i = t := by omega
            have e2 : j = t := by omega
            subst e1
            subst e2
            have b := h9 (by rw [← hp.1]; exact c.1)
            rw [← hp.2] at b
            omega
        · rw [if_neg e] at h0 ⊢
          exact h.2.2.2 q hq h0
    · exact RB_k h
  · exact RB_k h
def rP (n t p : Nat) (w : WS) : WS := if p / 8 < n ∧ p % 8 < n then rxj t (p / 8) (p % 8) w else w
theorem rx_flat {n t : Nat} {w : WS} (hn : n ≤ 8) : rxt n t w = fl (rP n t) 0 64 w := by
  unfold rxt
  exact fl_nest2 (f := rxj t) hn hn w
theorem RB_p {t n p : Nat} {w0 w : WS} {B E : Int} (hn : n ≤ 8) (hO : 2 * B + 4 * E ≤ 9223372036854775807) (hB : 0 ≤ B) (hE : 0 ≤ E) (hb : Bd w0 B) (h9 : w0.2.1 (8 * t + t) = true → -E ≤ (w0.2.2 (8 * t + t)).toInt) (ht : t < 8) (h : RB t w0 B E p w) : RB t w0 B E (p + 1) (rP n t p w) := by
  unfold rP
  split
  · rename_i c
    have pp := p8 p
    have h' : RB t w0 B E (8 * (p / 8) + p % 8) w := by rw [pp]; exact h
    have k := RB_s hO hB hE hb h9 ht (show p / 8 < 8 by omega) (show p % 8 < 8 by omega) h'
    rw [pp] at k
    exact k
  · exact RB_k h
theorem rx_rd {t n : Nat} {w : WS} {B E : Int} (hn : n ≤ 8) (hO : 2 * B + 4 * E ≤ 9223372036854775807) (hB : 0 ≤ B) (hE : 0 ≤ E) (hb : Bd w B) (h9 : w.2.1 (8 * t + t) = true → -E ≤ (w.2.2 (8 * t + t)).toInt) (ht : t < 8) : RB t w B E 64 (rxt n t w) := by
  rw [rx_flat hn]
  have key := sim (f := fun _ (u : Unit) => some u) (g := rP n t) (fun p _ W => RB t w B E p W) (N := 64) (fun p _ W _ hI => RB_p hn hO hB hE hb h9 ht hI) 64 0 (some ()) w (by omega) (RB_0 hB hE hb h9)
  exact key
theorem RB_Bd {t : Nat} {w0 w : WS} {B E C : Int} {p : Nat} (h : RB t w0 B E p w) (hE : 0 ≤ E) (hC : 2 * B + 4 * E ≤ C) : Bd w C := fun q hq h1 => by
  have k := h.2.2.2 q hq h1
  exact ⟨by omega, by omega⟩
/-- the reference alone: who is below 0 stays there -/
theorem rx_neg {n : Nat} (hn : n ≤ 8) : ∀ (m o : Nat) (w : WS) (B : Nat), o + m = n → B * 6 ^ m ≤ 1679616000000000 → Bd w (B : Int) → (∃ i, i < n ∧ w.2.1 (8 * i + i) = true ∧ (w.2.2 (8 * i + i)).toInt < 0) → (∃ i, i < n ∧ ((fl (rxt n) o m w).2.2 (8 * i + i)).toInt < 0) ∧ (fl (rxt n) o m w).1 = w.1
  | 0, o, w, B, _, _, _, h => by
    obtain ⟨i, h1, h2, h3⟩ := h
    exact ⟨⟨i, h1, h3⟩, rfl⟩
  | m + 1, o, w, B, ho, hB, hb, h => by
    have e : B * 6 ^ (m + 1) = B * 6 * 6 ^ m := by
      rw [Nat.pow_succ, Nat.mul_assoc, Nat.mul_comm (6 ^ m) 6]
    rw [e] at hB
    have h1 : B * 6 ≤ B * 6 * 6 ^ m := Nat.le_mul_of_pos_right _ (Nat.pow_pos (by omega))
    have k := rx_rd (t := o) (E := (B : Int)) hn (by omega) (by omega) (by omega) hb (fun z => (hb (8 * o + o) (by omega) z).1) (by omega)
    obtain ⟨i, i1, i2, i3⟩ := h
    have m1 := k.2.2.1 (8 * i + i) (by omega) i2
    have r := rx_neg hn m (o + 1) (rxt n o w) (B * 6) (by omega) hB (RB_Bd k (by omega) (by omega)) ⟨i, i1, m1.1, by omega⟩
    refine ⟨r.1, ?_⟩
    show (fl (rxt n) (o + 1) m (rxt n o w)).1 = w.1
    rw [r.2]
    exact k.1
theorem MW_same {S : Mx} {w : WS} {hg wd q : Nat} (h : MW S w hg wd) (hh : mHas S q = true) : MW (mEnter S q (mVal S q)) w hg wd :=
  ⟨h.1, h.2.1, fun p hp => by
    have k := h.2.2 p hp
    simp only [Pl] at k ⊢
    rw [has_e, val_e]
    by_cases e : p = q
    · subst e
      rw [if_pos rfl, if_pos rfl]
      rw [hh] at k
      exact ⟨k.1, fun _ => k.2 rfl⟩
    · rw [if_neg e, if_neg e]
      exact k⟩
/-- one step on both sides -/
theorem q_sh {t n i j : Nat} {S : Mx} {w0 w : WS} {B E : Int} (hn : n ≤ 8) (hO : 2 * B + 4 * E ≤ 1000000000000) (hB : 0 ≤ B) (hE : 0 ≤ E) (ht : t < 8) (hi : i < n) (hj : j < n) {p : Nat} (h : RB t w0 B E p w) (hS : MW S w n n) : ∃ S', shj t i j S = some S' ∧ MW S' (rxj t i j w) n n := by
  have p1 := hS.2.2 (8 * i + t) (by omega)
  have p2 := hS.2.2 (8 * t + j) (by omega)
  have p3 := hS.2.2 (8 * i + j) (by omega)
  unfold shj rxj
  by_cases c : mHas S (8 * i + t) = true ∧ mHas S (8 * t + j) = true
  · have q1 := p1.2 c.1
    have q2 := p2.2 c.2
    have c' : w.2.1 (8 * i + t) = true ∧ w.2.1 (8 * t + j) = true := ⟨by rw [← p1.1]; exact c.1, by rw [← p2.1]; exact c.2⟩
    rw [if_pos c, if_pos c']
    have sm := RB_sum (by omega) hB hE ht (by omega) (by omega) h c'.1 c'.2
    have hv : inR (w.2.2 (8 * i + t) + w.2.2 (8 * t + j)) = true := inR_iff.mpr (by omega)
    have e1 : prS 1 (w.2.2 (8 * i + t)) (w.2.2 (8 * t + j)) = some (w.2.2 (8 * i + t) + w.2.2 (8 * t + j)) := by
      show plS (w.2.2 (8 * i + t)) (w.2.2 (8 * t + j)) = _
      unfold plS
      rw [if_pos hv]
    rw [q1.1, q2.1, e1, Option.bind_some]
    generalize w.2.2 (8 * i + t) + w.2.2 (8 * t + j) = v at hv ⊢
    unfold gaS
    have r1 : (8 * i + j) / 8 < n := by omega
    have r2 : (8 * i + j) % 8 < n := by omega
    cases hh : mHas S (8 * i + j) with
    | false =>
      rw [if_neg (by simp), if_pos (Or.inl (by rw [← p3.1]; exact hh))]
      exact ⟨_, rfl, MW_e r1 r2 hv hS⟩
    | true =>
      have q3 := p3.2 hh
      rw [if_pos rfl]
      have e2 : suS 1 (mVal S (8 * i + j)) v = some (miL (mVal S (8 * i + j)) v) := rfl
      rw [e2, Option.map_some]
      refine ⟨_, rfl, ?_⟩
      unfold miL
      by_cases c2 : v < mVal S (8 * i + j)
      · rw [if_pos c2, if_pos (Or.inr (by rw [← q3.1]; exact c2))]
        exact MW_e r1 r2 hv hS
      · rw [if_neg c2, if_neg (fun z => ?_)]
        · exact MW_same hS hh
        · rcases z with z | z
          · rw [← p3.1, hh] at z
            cases z
          · rw [← q3.1] at z
            exact c2 z
  · have c' : ¬ (w.2.1 (8 * i + t) = true ∧ w.2.1 (8 * t + j) = true) := fun z => c ⟨by rw [p1.1]; exact z.1, by rw [p2.1]; exact z.2⟩
    rw [if_neg c, if_neg c']
    exact ⟨S, rfl, hS⟩
/-- one round on both sides -/
theorem q_ro {t n : Nat} {S : Mx} {w : WS} {B E : Int} (hn : n ≤ 8) (hO : 2 * B + 4 * E ≤ 1000000000000) (hB : 0 ≤ B) (hE : 0 ≤ E) (hb : Bd w B) (h9 : w.2.1 (8 * t + t) = true → -E ≤ (w.2.2 (8 * t + t)).toInt) (ht : t < 8) (hS : MW S w n n) : ∃ S', fo (shi n t) 0 n S = some S' ∧ MW S' (rxt n t w) n n := by
  have e : fo (shi n t) 0 n S = _ := fo_nest (f := shj t) (R := n) (C := n) hn hn S
  rw [e, rx_flat hn]
  have key := sim (f := fun p S => if p / 8 < n ∧ p % 8 < n then shj t (p / 8) (p % 8) S else some S) (g := rP n t) (fun p o W => ∃ S', o = some S' ∧ MW S' W n n ∧ RB t w B E p W) (N := 64) ?_ 64 0 (some S) w (by omega) ⟨S, rfl, hS, RB_0 hB hE hb h9⟩
  · rw [Option.bind_some] at key
    obtain ⟨S', h1, h2, _⟩ := key
    exact ⟨S', h1, h2⟩
  · rintro p o W hp ⟨S', rfl, h2, h3⟩
    have h4 := RB_p hn (by omega) hB hE hb h9 ht h3
    show ∃ S'', (if p / 8 < n ∧ p % 8 < n then shj t (p / 8) (p % 8) S' else some S') = some S'' ∧ _
    by_cases c : p / 8 < n ∧ p % 8 < n
    · obtain ⟨S2, g1, g2⟩ := q_sh hn hO hB hE ht c.1 c.2 h3 h2
      refine ⟨S2, by rw [if_pos c]; exact g1, ?_, h4⟩
      unfold rP
      rw [if_pos c]
      exact g2
    · refine ⟨S', by rw [if_neg c], ?_, h4⟩
      unfold rP
      rw [if_neg c]
      exact h2
theorem ci_no {S : Mx} {w : WS} {n : Nat} (hn : n ≤ 8) (hS : MW S w n n) (hd : ∀ i, i < n → w.2.1 (8 * i + i) = true) : (ciB S = true → ∀ i, i < n → 0 ≤ (w.2.2 (8 * i + i)).toInt) ∧ (ciB S = false → ∃ i, i < n ∧ w.2.1 (8 * i + i) = true ∧ (w.2.2 (8 * i + i)).toInt < 0) := by
  have eq : ∀ i, i < n → mVal S (8 * i + i) = w.2.2 (8 * i + i) := fun i hi => by
    have p := hS.2.2 (8 * i + i) (by omega)
    exact (p.2 (by rw [p.1]; exact hd i hi)).1
  unfold ciB
  rw [hS.1]
  refine ⟨fun h i hi => ?_, fun h => ?_⟩
  · have k := of_decide_eq_true h i hi
    rw [eq i hi, lt_int, zero64] at k
    omega
  · have k := of_decide_eq_false h
    apply Classical.byContradiction
    intro g
    apply k
    intro i hi z
    rw [eq i hi, lt_int, zero64] at z
    exact g ⟨i, hi, hd i hi, z⟩
theorem pa_t {R C o m : Nat} {S S' : Mx} (h : fo (shi C o) 0 R S = some S') (hc : ciB S' = true) : paL R C o (m + 1) S = paL R C (o + 1) m S' := by
  unfold paL
  simp only [h, hc, if_true]
  cases m <;> rfl
theorem pa_f {R C o m : Nat} {S S' : Mx} (h : fo (shi C o) 0 R S = some S') (hc : ciB S' = false) : paL R C o (m + 1) S = .inl 3 := by
  unfold paL
  simp only [h, hc, Bool.false_eq_true, if_false]
theorem q_pl {n : Nat} (hn : n ≤ 8) : ∀ (m o : Nat) (S : Mx) (w : WS) (B : Nat), o + m = n → B * 2 ^ m ≤ 256000000000 → B * 6 ^ m ≤ 1679616000000000 → MW S w n n → (∀ i, i < n → w.2.1 (8 * i + i) = true) → Bd w (B : Int) → (∀ i, i < n → 0 ≤ (w.2.2 (8 * i + i)).toInt ∨ B ≤ 1000000000) →
    (fl (rxt n) o m w).1 = w.1 ∧ match paL n n o m S with
    | .inr S' => MW S' (fl (rxt n) o m w) n n ∧ (m = 0 ∨ ∀ i, i < n → 0 ≤ ((fl (rxt n) o m w).2.2 (8 * i + i)).toInt)
    | .inl z => z = 3 ∧ ∃ i, i < n ∧ ((fl (rxt n) o m w).2.2 (8 * i + i)).toInt < 0
  | 0, o, S, w, B, _, _, _, hS, _, _, _ => ⟨rfl, hS, Or.inl rfl⟩
  | m + 1, o, S, w, B, ho, hB2, hB6, hS, hd, hb, hz => by
    have e2 : B * 2 ^ (m + 1) = B * 2 * 2 ^ m := by
      rw [Nat.pow_succ, Nat.mul_assoc, Nat.mul_comm (2 ^ m) 2]
    have e6 : B * 6 ^ (m + 1) = B * 6 * 6 ^ m := by
      rw [Nat.pow_succ, Nat.mul_assoc, Nat.mul_comm (6 ^ m) 6]
    rw [e2] at hB2
    rw [e6] at hB6
    have l2 : B * 2 ≤ B * 2 * 2 ^ m := Nat.le_mul_of_pos_right _ (Nat.pow_pos (by omega))
    have l6 : B * 6 ≤ B * 6 * 6 ^ m := Nat.le_mul_of_pos_right _ (Nat.pow_pos (by omega))
    have l26 : B * 2 * 6 ^ m ≤ B * 6 * 6 ^ m := Nat.mul_le_mul_right _ (by omega)
    have eF : fl (rxt n) o (m + 1) w = fl (rxt n) (o + 1) m (rxt n o w) := rfl
    rw [eF]
    by_cases c : 0 ≤ (w.2.2 (8 * o + o)).toInt
    · -- no circle at this vertex
      have r := rx_rd (t := o) (n := n) (E := 0) hn (by omega) (show (0 : Int) ≤ (B : Int) by omega) (by omega) hb (fun _ => by omega) (by omega)
      obtain ⟨S', g1, g2⟩ := q_ro (t := o) (E := 0) hn (by omega) (by omega) (by omega) hb (fun _ => by omega) (by omega) hS
      have hd' : ∀ i, i < n → (rxt n o w).2.1 (8 * i + i) = true := fun i hi => (r.2.2.1 (8 * i + i) (by omega) (hd i hi)).1
      have cc := ci_no hn g2 hd'
      have hb' : Bd (rxt n o w) ((B * 2 : Nat) : Int) := RB_Bd r (by omega) (by omega)
      cases hc : ciB S' with
      | true =>
        have k := q_pl hn m (o + 1) S' (rxt n o w) (B * 2) (by omega) hB2 (by omega) g2 hd' hb' (fun i hi => Or.inl (cc.1 hc i hi))
        refine ⟨by rw [k.1]; exact r.1, ?_⟩
        rw [pa_t g1 hc]
        have k2 := k.2
        revert k2
        cases hp : paL n n (o + 1) m S' with
        | inl z => exact fun k2 => k2
        | inr S2 =>
          intro k2
          refine ⟨k2.1, Or.inr ?_⟩
          rcases k2.2 with e | e
          · subst e
            exact cc.1 hc
          · exact e
      | false =>
        have k := rx_neg hn m (o + 1) (rxt n o w) (B * 2) (by omega) (by omega) hb' (cc.2 hc)
        rw [pa_f g1 hc]
        exact ⟨by rw [k.2]; exact r.1, rfl, k.1⟩
    · -- a circle at this vertex: only at first
      have hB : B ≤ 1000000000 := by
        rcases hz o (by omega) with q | q
        · exact absurd q c
        · exact q
      have r := rx_rd (t := o) (n := n) (E := (B : Int)) hn (by omega) (by omega) (by omega) hb (fun z => (hb (8 * o + o) (by omega) z).1) (by omega)
      obtain ⟨S', g1, g2⟩ := q_ro (t := o) (E := (B : Int)) hn (by omega) (by omega) (by omega) hb (fun z => (hb (8 * o + o) (by omega) z).1) (by omega) hS
      have hd' : ∀ i, i < n → (rxt n o w).2.1 (8 * i + i) = true := fun i hi => (r.2.2.1 (8 * i + i) (by omega) (hd i hi)).1
      have cc := ci_no hn g2 hd'
      have neg := (r.2.2.1 (8 * o + o) (by omega) (hd o (by omega))).2
      have hc : ciB S' = false := by
        cases hc : ciB S' with
        | false => rfl
        | true =>
          have := cc.1 hc o (by omega)
          omega
      rw [pa_f g1 hc]
      have k := rx_neg hn m (o + 1) (rxt n o w) (B * 6) (by omega) hB6 (RB_Bd r (by omega) (by omega)) (cc.2 hc)
      exact ⟨by rw [k.2]; exact r.1, rfl, k.1⟩
/-- is a value larger than paths takes -/
def bgB (v : Int64) : Bool := decide (v < -1000000000) || decide (1000000000 < v)
theorem bg_iff {v : Int64} : bgB v = true ↔ v.toInt < -1000000000 ∨ 1000000000 < v.toInt := by
  unfold bgB
  rw [Bool.or_eq_true, decide_eq_true_eq, decide_eq_true_eq, lt_int, lt_int]
  have e1 : (-1000000000 : Int64).toInt = -1000000000 := by decide
  have e2 : (1000000000 : Int64).toInt = 1000000000 := by decide
  rw [e1, e2]
theorem ab_iff {v : Int64} (h : inR v = true) : 1000000000 < abL v ↔ bgB v = true := by
  rw [lt_int, abL_int h, bg_iff]
  have e2 : (1000000000 : Int64).toInt = 1000000000 := by decide
  rw [e2]
  omega
/-- the matrix as paths takes it over -/
theorem pj_at (h : Rel M s) {a : Nat} (ha : a < 6) {S : Mx} (w : WS) (h0 : S.1 = s.1 a ∧ S.2.1 = s.2.1 a) (hS : ∀ p, p < 64 → mHas S p = mHas (M a) p ∧ (mHas S p = true → mVal S p = mVal (M a) p)) :
    MW S (fl (paj s a) 0 64 (bgS w)) (s.1 a) (s.2.1 a) ∧ ((fl (paj s a) 0 64 (bgS w)).1 = true ↔ ∃ p, p < 64 ∧ mHas (M a) p = true ∧ bgB (mVal (M a) p) = true) := by
  have key := sim (f := fun _ (u : Unit) => some u) (g := paj s a) (fun i _ W => (W.1 = true ↔ ∃ p, p < i ∧ mHas (M a) p = true ∧ bgB (mVal (M a) p) = true) ∧ ∀ p, p < 64 → if p < i then W.2.1 p = mHas (M a) p ∧ (mHas (M a) p = true → W.2.2 p = mVal (M a) p) else W.2.1 p = false) (N := 64) ?_ 64 0 (some ()) (bgS w) (by omega) ⟨⟨fun z => (by cases z), fun ⟨p, hp, _⟩ => absurd hp (by omega)⟩, fun p hp => by rw [if_neg (by omega)]; exact bg_at hp⟩
  · refine ⟨⟨h0.1, h0.2, fun p hp => ?_⟩, key.1⟩
    have k := key.2 p hp
    rw [if_pos hp] at k
    have s1 := hS p hp
    simp only [Pl]
    rw [k.1]
    refine ⟨s1.1, fun z => ?_⟩
    have z2 : mHas (M a) p = true := by rw [← s1.1]; exact z
    rw [k.2 z2, s1.2 z]
    exact ⟨rfl, ((h.pl ha hp).2 z2).2⟩
  · rintro i _ W hi ⟨k1, k2⟩
    have q := h.pl ha hi
    have pp := p8 i
    unfold paj
    rw [pp]
    cases hh : mHas (M a) i with
    | false =>
      rw [← q.1, hh]
      refine ⟨⟨fun z => ?_, fun ⟨p, h1, h2, h3⟩ => ?_⟩, fun p hp => ?_⟩
      · obtain ⟨p, h1, h2⟩ := k1.mp z
        exact ⟨p, by omega, h2⟩
      · refine k1.mpr ⟨p, ?_, h2, h3⟩
        by_cases e : p = i
        · subst e
          rw [hh] at h2
          cases h2
        · omega
      · have k := k2 p hp
        by_cases e : p = i
        · subst e
          rw [if_neg (by omega)] at k
          rw [if_pos (by omega), hh]
          exact ⟨k, fun z => by cases z⟩
        · by_cases e2 : p < i
          · rw [if_pos e2] at k
            rw [if_pos (by omega)]
            exact k
          · rw [if_neg e2] at k
            rw [if_neg (by omega)]
            exact k
    | true =>
      have q2 := q.2 hh
      rw [← q.1, hh, ← q2.1]
      simp only [if_true]
      refine ⟨?_, fun p hp => ?_⟩
      · show (W.1 || bgB (mVal (M a) i)) = true ↔ _
        rw [Bool.or_eq_true, k1]
        constructor
        · rintro (⟨p, h1, h2⟩ | z)
          · exact ⟨p, by omega, h2⟩
          · exact ⟨i, by omega, hh, z⟩
        · rintro ⟨p, h1, h2, h3⟩
          by_cases e : p = i
          · subst e
            exact Or.inr h3
          · exact Or.inl ⟨p, by omega, h2, h3⟩
      · have k := k2 p hp
        rw [te_k, md_k]
        by_cases e : p = i
        · subst e
          rw [if_pos (by omega), if_pos rfl, if_pos rfl, hh]
          exact ⟨rfl, fun _ => rfl⟩
        · rw [if_neg e, if_neg e]
          by_cases e2 : p < i
          · rw [if_pos e2] at k
            rw [if_pos (by omega)]
            exact k
          · rw [if_neg e2] at k
            rw [if_neg (by omega)]
            exact k
theorem pd_1 : ∀ (n i : Nat) (w : WS), (fl pdj i n w).1 = w.1
  | 0, _, _ => rfl
  | n + 1, i, w => by
    show (fl pdj (i + 1) n (pdj i w)).1 = w.1
    rw [pd_1 n (i + 1) (pdj i w)]
    unfold pdj
    split <;> rfl
theorem le_iff (h : Rel M s) {a : Nat} (ha : a < 6) : leL (M a) ↔ ¬ ∃ p, p < 64 ∧ mHas (M a) p = true ∧ bgB (mVal (M a) p) = true := by
  have kk := h.sh ha
  constructor
  · rintro hl ⟨p, hp, h1, h2⟩
    have q := (h.pl ha hp).2 h1
    refine hl (p / 8) (by rw [kk.1]; exact q.2.2.1) (p % 8) (by rw [kk.2.1]; exact q.2.2.2) ?_
    unfold blL
    rw [p8]
    exact ⟨h1, (ab_iff q.2.1).mpr h2⟩
  · intro g i hi j hj hb
    unfold blL at hb
    have q := (h.pl (p := 8 * i + j) ha (by omega)).2 hb.1
    exact g ⟨8 * i + j, by omega, hb.1, (ab_iff q.2.1).mp hb.2⟩
theorem q_pf (h : Rel M s) {a : Nat} (ha : a < 6) (hl : ¬ leL (M a)) (w : WS) : (paW s a (bgS w)).1 = true := by
  obtain ⟨S, _, e1, e2, e3⟩ := gA_first h (k := 1) ha (M a) (s.1 a) (s.2.1 a)
  have k := (pj_at h ha w ⟨e1, e2⟩ e3).2.mpr (by
    apply Classical.byContradiction
    intro g
    exact hl ((le_iff h ha).mpr g))
  have e : (paA s a (bgS w)).1 = true := by
    unfold paA
    rw [pd_1]
    exact k
  unfold paW
  rw [if_pos e]
  exact e
theorem pc_iff {W : WS} : ∀ (n i : Nat) (z : Bool), fl (pcj W) i n z = true ↔ z = true ∨ ∃ q, i ≤ q ∧ q < i + n ∧ (W.2.2 (8 * q + q)).toInt < 0
  | 0, i, z => by
    refine ⟨fun h => Or.inl h, fun h => ?_⟩
    rcases h with h | ⟨q, h1, h2, _⟩
    · exact h
    · omega
  | n + 1, i, z => by
    show fl (pcj W) (i + 1) n (pcj W i z) = true ↔ _
    rw [pc_iff n (i + 1) (pcj W i z)]
    unfold pcj
    have e9 : 9 * i = 8 * i + i := by omega
    rw [Bool.or_eq_true, decide_eq_true_eq, lt_int, zero64, e9]
    constructor
    · rintro ((h | h) | ⟨q, h1, h2, h3⟩)
      · exact Or.inl h
      · exact Or.inr ⟨i, by omega, by omega, h⟩
      · exact Or.inr ⟨q, by omega, by omega, h3⟩
    · rintro (h | ⟨q, h1, h2, h3⟩)
      · exact Or.inl (Or.inl h)
      · by_cases e : q = i
        · subst e
          exact Or.inl (Or.inr h3)
        · exact Or.inr ⟨q, by omega, by omega, h3⟩
/-- the diagonal -/
theorem q_dg {n : Nat} (hn : n ≤ 8) {S : Mx} {w : WS} (hS : MW S w n n) (hb : Bd w 1000000000) : ∃ S', fo dgj 0 n S = some S' ∧ MW S' (fl pdj 0 n w) n n ∧ Bd (fl pdj 0 n w) 1000000000 ∧ ∀ i, i < n → (fl pdj 0 n w).2.1 (8 * i + i) = true := by
  have key := sim (f := dgj) (g := pdj) (fun i o W => ∃ S', o = some S' ∧ MW S' W n n ∧ Bd W 1000000000 ∧ ∀ q, q < i → W.2.1 (8 * q + q) = true) (N := n) ?_ n 0 (some S) w (by omega) ⟨S, rfl, hS, hb, fun q hq => absurd hq (by omega)⟩
  · rw [Option.bind_some] at key
    exact key
  · rintro i o W hi ⟨S', rfl, h1, h2, h3⟩
    have p := h1.2.2 (8 * i + i) (by omega)
    have e9 : 9 * i = 8 * i + i := by omega
    have r1 : (8 * i + i) / 8 < n := by omega
    have r2 : (8 * i + i) % 8 < n := by omega
    have up : Bd (mkS W (8 * i + i) 0) 1000000000 ∧ ∀ q, q < i + 1 → (mkS W (8 * i + i) 0).2.1 (8 * q + q) = true := by
      refine ⟨fun q hq hq2 => ?_, fun q hq => ?_⟩
      · rw [md_k]
        rw [te_k] at hq2
        by_cases e : q = 8 * i + i
        · rw [if_pos e, zero64]
          omega
        · rw [if_neg e] at hq2 ⊢
          exact h2 q hq hq2
      · rw [te_k]
        by_cases e : 8 * q + q = 8 * i + i
        · rw [if_pos e]
        · rw [if_neg e]
          exact h3 q (by omega)
    show ∃ S'', dgj i S' = some S'' ∧ _
    unfold dgj pdj gaS
    rw [e9]
    cases hh : mHas S' (8 * i + i) with
    | false =>
      rw [if_neg (by simp), if_pos (Or.inl (by rw [← p.1]; exact hh))]
      exact ⟨_, rfl, MW_e r1 r2 inR_0 h1, up⟩
    | true =>
      have p2 := p.2 hh
      rw [if_pos rfl]
      have e2 : suS 1 (mVal S' (8 * i + i)) 0 = some (miL (mVal S' (8 * i + i)) 0) := rfl
      rw [e2, Option.map_some]
      refine ⟨_, rfl, ?_⟩
      unfold miL
      by_cases c : 0 < mVal S' (8 * i + i)
      · rw [if_pos c, if_pos (Or.inr (by rw [← p2.1]; exact c))]
        exact ⟨MW_e r1 r2 inR_0 h1, up⟩
      · rw [if_neg c, if_neg (fun z => ?_)]
        · refine ⟨MW_same h1 hh, h2, fun q hq => ?_⟩
          by_cases e : q = i
          · subst e
            rw [← p.1]
            exact hh
          · exact h3 q (by omega)
        · rcases z with z | z
          · rw [← p.1, hh] at z
            cases z
          · rw [← p2.1] at z
            exact c z
theorem q_pa (h : Rel M s) {a : Nat} (ha : a < 6) (hsq : s.1 a = s.2.1 a) (hl : leL (M a)) (F : Mx) (w : WS) : (paW s a (bgS w)).1 = false ∧ match paR (M a) (mClear F (M a).1 (M a).2.1) with
    | .inr S' => paC s a (bgS w) = false ∧ MW S' (paW s a (bgS w)) (s.1 a) (s.1 a)
    | .inl z => z = 3 ∧ paC s a (bgS w) = true := by
  have kk := h.sh ha
  have e8 : s.1 a ≤ 8 := (h.h8 a ha).1
  have e1' : 1 ≤ s.1 a := (h a ha).2.2.1.1
  obtain ⟨S, e0, e1, e2, e3⟩ := gA_first h (k := 1) ha F (M a).1 (M a).2.1
  rw [kk.1] at e1
  rw [kk.2.1] at e2
  have k := pj_at h ha w ⟨e1, e2⟩ e3
  have hno : ¬ ∃ p, p < 64 ∧ mHas (M a) p = true ∧ bgB (mVal (M a) p) = true := (le_iff h ha).mp hl
  have hf : (fl (paj s a) 0 64 (bgS w)).1 = false := by
    cases hz : (fl (paj s a) 0 64 (bgS w)).1 with
    | false => rfl
    | true => exact absurd (k.2.mp hz) hno
  have hS := k.1
  rw [← hsq] at hS
  have hb : Bd (fl (paj s a) 0 64 (bgS w)) 1000000000 := fun p hp hp2 => by
    have p1 := hS.2.2 p hp
    have z : mHas S p = true := by rw [p1.1]; exact hp2
    have p2 := p1.2 z
    have e := e3 p hp
    rw [← p2.1, e.2 z]
    have nb : ¬ bgB (mVal (M a) p) = true := fun g => hno ⟨p, hp, by rw [← e.1]; exact z, g⟩
    rw [bg_iff] at nb
    omega
  obtain ⟨S2, d1, d2, d3, d4⟩ := q_dg e8 hS hb
  have eA : paA s a (bgS w) = fl pdj 0 (s.1 a) (fl (paj s a) 0 64 (bgS w)) := rfl
  rw [← eA] at d2 d3 d4
  have fA : (paA s a (bgS w)).1 = false := by
    rw [eA, pd_1]
    exact hf
  have b2 : 1000000000 * 2 ^ s.1 a ≤ 256000000000 := by
    have : 2 ^ s.1 a ≤ 2 ^ 8 := Nat.pow_le_pow_right (by omega) e8
    omega
  have b6 : 1000000000 * 6 ^ s.1 a ≤ 1679616000000000 := by
    have : 6 ^ s.1 a ≤ 6 ^ 8 := Nat.pow_le_pow_right (by omega) e8
    omega
  have r := q_pl e8 (s.1 a) 0 S2 (paA s a (bgS w)) 1000000000 (by omega) b2 b6 d2 d4 d3 (fun _ _ => Or.inr (Nat.le_refl _))
  have eW : paW s a (bgS w) = fl (rxt (s.1 a)) 0 (s.1 a) (paA s a (bgS w)) := by
    unfold paW
    rw [if_neg (by rw [fA]; simp)]
    rfl
  have eR : paR (M a) (mClear F (M a).1 (M a).2.1) = paL (s.1 a) (s.1 a) 0 (s.1 a) S2 := by
    unfold paR
    rw [e0, Option.bind_some, kk.1, kk.2.1, ← hsq]
    simp only [d1]
  rw [← eW] at r
  rw [eR]
  refine ⟨by rw [r.1]; exact fA, ?_⟩
  have r2 := r.2
  have pc : paC s a (bgS w) = true ↔ _ := pc_iff (W := paW s a (bgS w)) (s.1 a) 0 false
  revert r2
  cases hp : paL (s.1 a) (s.1 a) 0 (s.1 a) S2 with
  | inl z =>
    rintro ⟨z1, i, z2, z3⟩
    exact ⟨z1, pc.mpr (Or.inr ⟨i, by omega, by omega, z3⟩)⟩
  | inr S3 =>
    rintro ⟨z1, z2⟩
    refine ⟨?_, z1⟩
    cases hc : paC s a (bgS w) with
    | false => rfl
    | true =>
      rcases pc.mp hc with y | ⟨q, y1, y2, y3⟩
      · cases y
      · rcases z2 with z2 | z2
        · omega
        · have := z2 q (by omega)
          omega
end PQ7
