/-! transpose, select; sums and products -/
section PQ2
theorem fl_fo {σ : Type} {f : Nat → σ → σ} {i n : Nat} {s : σ} : some (fl f i n s) = (some s).bind (fo (fun i s => some (f i s)) i n) := by
  show _ = fo (fun i s => some (f i s)) i n s
  rw [fo_fl]
theorem fl_nest {σ : Type} {f : Nat → Nat → σ → σ} {R C : Nat} (hR : R ≤ 8) (hC : C ≤ 8) (s : σ) : some (fl (fun i s => fl (f i) 0 C s) 0 R s) = (some s).bind (fo (fun p s => if p / 8 < R ∧ p % 8 < C then some (f (p / 8) (p % 8) s) else some s) 0 64) := by
  rw [Option.bind_some]
  rw [← fo_nest (f := fun i j s => some (f i j s)) hR hC s, ← fo_fl]
  exact fo_cong R 0 s (fun i s _ _ => (fo_fl (f i) C 0 s).symm)
variable {M : DS} {s : SS}
theorem Rel.sh (h : Rel M s) {r : Nat} (hr : r < 6) : (M r).1 = s.1 r ∧ (M r).2.1 = s.2.1 r ∧ (M r).1 ≤ 8 ∧ (M r).2.1 ≤ 8 := by
  have k := h r hr
  exact ⟨k.1, k.2.1, by rw [k.1]; exact k.2.2.1.2.1, by rw [k.2.1]; exact k.2.2.1.2.2.2⟩
theorem Rel.pl (h : Rel M s) {r p : Nat} (hr : r < 6) (hp : p < 64) : mHas (M r) p = s.2.2.1 (64 * r + p) ∧ (mHas (M r) p = true → mVal (M r) p = s.2.2.2 (64 * r + p) ∧ inR (mVal (M r) p) = true ∧ p / 8 < s.1 r ∧ p % 8 < s.2.1 r) := (h r hr).2.2.2 p hp
theorem Rel.h8 (h : Rel M s) : ∀ r, r < 6 → s.1 r ≤ 8 ∧ s.2.1 r ≤ 8 := fun r hr => ⟨(h r hr).2.2.1.2.1, (h r hr).2.2.1.2.2.2⟩
theorem Rel.hM (h : Rel M s) : ∀ k, k < 6 → (M k).1 ≤ 8 ∧ (M k).2.1 ≤ 8 := fun r hr => ⟨(h.sh hr).2.2.1, (h.sh hr).2.2.2⟩
theorem p8 (p : Nat) : 8 * (p / 8) + p % 8 = p := Nat.div_add_mod p 8
theorem q_tr (h : Rel M s) {a : Nat} (ha : a < 6) (F : Mx) (w : WS) : MW (tr (M a) (mClear F (M a).2.1 (M a).1)) (tpS s a (bgS w)) (s.2.1 a) (s.1 a) := by
  have k := h.sh ha
  have e : some (tr (M a) (mClear F (M a).2.1 (M a).1)) = _ := fl_nest (f := trj (M a)) (R := (M a).1) (C := (M a).2.1) k.2.2.1 k.2.2.2 (mClear F (M a).2.1 (M a).1)
  have key := sim (f := fun p S => if p / 8 < (M a).1 ∧ p % 8 < (M a).2.1 then some (trj (M a) (p / 8) (p % 8) S) else some S) (g := tpj s a) (fun _ o w => ∃ S, o = some S ∧ MW S w (s.2.1 a) (s.1 a)) (N := 64) ?_ 64 0 (some (mClear F (M a).2.1 (M a).1)) (bgS w) (by omega) ⟨_, rfl, by rw [k.1, k.2.1]; exact MW_0⟩
  · rw [← e] at key
    obtain ⟨S, h1, h2⟩ := key
    cases h1
    exact h2
  · rintro p o w hp ⟨S, rfl, hS⟩
    have q := h.pl ha hp
    have pp := p8 p
    show ∃ S', (if p / 8 < (M a).1 ∧ p % 8 < (M a).2.1 then some (trj (M a) (p / 8) (p % 8) S) else some S) = some S' ∧ _
    unfold tpj
    cases hh : mHas (M a) p with
    | false =>
      rw [← q.1, hh]
      refine ⟨S, ?_, hS⟩
      unfold trj
      rw [pp, hh]
      simp
    | true =>
      have q2 := q.2 hh
      rw [← q.1, hh]
      refine ⟨mEnter S (8 * (p % 8) + p / 8) (mVal (M a) p), ?_, ?_⟩
      · rw [if_pos ⟨by rw [k.1]; exact q2.2.2.1, by rw [k.2.1]; exact q2.2.2.2⟩]
        unfold trj
        rw [pp, hh]
        simp
      · simp only [if_true]
        rw [← q2.1]
        exact MW_e (by omega) (by omega) q2.2.1 hS
theorem q_se (h : Rel M s) {a hw : Nat} {x : Int64} (ha : a < 6) (F : Mx) (w : WS) : MW (fl (sei hw x (M a)) 0 (M a).1 (mClear F (M a).1 (M a).2.1)) (scS s a hw x (bgS w)) (s.1 a) (s.2.1 a) := by
  have k := h.sh ha
  have e : some (fl (sei hw x (M a)) 0 (M a).1 (mClear F (M a).1 (M a).2.1)) = _ := fl_nest (f := sej hw x (M a)) (R := (M a).1) (C := (M a).2.1) k.2.2.1 k.2.2.2 (mClear F (M a).1 (M a).2.1)
  have key := sim (f := fun p S => if p / 8 < (M a).1 ∧ p % 8 < (M a).2.1 then some (sej hw x (M a) (p / 8) (p % 8) S) else some S) (g := scj s a hw x) (fun _ o w => ∃ S, o = some S ∧ MW S w (s.1 a) (s.2.1 a)) (N := 64) ?_ 64 0 (some (mClear F (M a).1 (M a).2.1)) (bgS w) (by omega) ⟨_, rfl, by rw [k.1, k.2.1]; exact MW_0⟩
  · rw [← e] at key
    obtain ⟨S, h1, h2⟩ := key
    cases h1
    exact h2
  · rintro p o w hp ⟨S, rfl, hS⟩
    have q := h.pl ha hp
    have pp := p8 p
    show ∃ S', (if p / 8 < (M a).1 ∧ p % 8 < (M a).2.1 then some (sej hw x (M a) (p / 8) (p % 8) S) else some S) = some S' ∧ _
    unfold scj
    rw [pp]
    cases hh : mHas (M a) p with
    | false =>
      rw [← q.1, hh]
      refine ⟨S, ?_, hS⟩
      unfold sej
      rw [pp, hh]
      simp
    | true =>
      have q2 := q.2 hh
      rw [← q.1, hh]
      have c : p / 8 < (M a).1 ∧ p % 8 < (M a).2.1 := ⟨by rw [k.1]; exact q2.2.2.1, by rw [k.2.1]; exact q2.2.2.2⟩
      rw [if_pos c]
      simp only [if_true]
      unfold sej
      rw [pp, hh, ← q2.1]
      cases hs : seB hw (p / 8) (p % 8) (mVal (M a) p) x with
      | false => exact ⟨S, by simp, by simpa using hS⟩
      | true => exact ⟨mEnter S p (mVal (M a) p), by simp, by simpa using MW_e q2.2.2.1 q2.2.2.2 q2.2.1 hS⟩
/-! sums and products: none, or the same number -/
theorem inR_iff {x : Int64} : inR x = true ↔ -1000000000000 ≤ x.toInt ∧ x.toInt ≤ 1000000000000 := by
  unfold inR
  rw [Bool.and_eq_true, decide_eq_true_eq, decide_eq_true_eq, Int64.le_iff_toInt_le, Int64.le_iff_toInt_le]
  have e1 : (-1000000000000 : Int64).toInt = -1000000000000 := by decide
  have e2 : (1000000000000 : Int64).toInt = 1000000000000 := by decide
  rw [e1, e2]
theorem inR_1 : inR 1 = true := by decide
theorem su_or {k : Nat} {x y : Int64} (hk : k < 4) (hx : inR x = true) (hy : inR y = true) : (suS k x y = none ∧ inR (su0 k x y) = false) ∨ (suS k x y = some (su0 k x y) ∧ inR (su0 k x y) = true) := by
  obtain rfl | rfl | rfl | rfl : k = 0 ∨ k = 1 ∨ k = 2 ∨ k = 3 := by omega
  · show (plS x y = none ∧ inR (x + y) = false) ∨ (plS x y = some (x + y) ∧ inR (x + y) = true)
    unfold plS
    cases h : inR (x + y) with
    | false => exact Or.inl ⟨by simp, rfl⟩
    | true => exact Or.inr ⟨by simp, rfl⟩
  · right
    have e : miL x y = su0 1 x y := by
      show (if y < x then y else x) = if x < y then x else y
      by_cases h : y < x
      · rw [if_pos h, if_neg (Int64.not_lt.mpr (Int64.le_of_lt h))]
      · rw [if_neg h]
        by_cases h2 : x < y
        · rw [if_pos h2]
        · rw [if_neg h2]
          exact Int64.le_antisymm (Int64.not_lt.mp h) (Int64.not_lt.mp h2)
    refine ⟨by show some (miL x y) = _; rw [e], ?_⟩
    show inR (if x < y then x else y) = true
    split
    · exact hx
    · exact hy
  · right
    refine ⟨rfl, ?_⟩
    show inR (if ¬ x = 0 ∨ ¬ y = 0 then 1 else 0) = true
    split
    · exact inR_1
    · exact inR_0
  · right
    refine ⟨rfl, ?_⟩
    show inR (if y < x then x else y) = true
    split
    · exact hx
    · exact hy
theorem su_comm {k : Nat} {x y : Int64} (hk : k < 4) : su0 k x y = su0 k y x := by
  obtain rfl | rfl | rfl | rfl : k = 0 ∨ k = 1 ∨ k = 2 ∨ k = 3 := by omega
  · exact Int64.add_comm x y
  · show (if x < y then x else y) = if y < x then y else x
    by_cases h : x < y
    · rw [if_pos h, if_neg (Int64.not_lt.mpr (Int64.le_of_lt h))]
    · rw [if_neg h]
      by_cases h2 : y < x
      · rw [if_pos h2]
      · rw [if_neg h2]
        exact Int64.le_antisymm (Int64.not_lt.mp h) (Int64.not_lt.mp h2)
  · show (if ¬ x = 0 ∨ ¬ y = 0 then (1 : Int64) else 0) = if ¬ y = 0 ∨ ¬ x = 0 then 1 else 0
    by_cases h : ¬ x = 0 ∨ ¬ y = 0
    · rw [if_pos h, if_pos h.symm]
    · rw [if_neg h, if_neg (fun q => h q.symm)]
  · show (if y < x then x else y) = if x < y then y else x
    by_cases h : x < y
    · rw [if_pos h, if_neg (Int64.not_lt.mpr (Int64.le_of_lt h))]
    · rw [if_neg h]
      by_cases h2 : y < x
      · rw [if_pos h2]
      · rw [if_neg h2]
        exact Int64.le_antisymm (Int64.not_lt.mp h) (Int64.not_lt.mp h2)
theorem ab0_int {x : Int64} (h : inR x = true) : (ab0 x).toInt = x.toInt.natAbs := by
  have k := inR_iff.mp h
  unfold ab0
  have e0 : (0 : Int64).toInt = 0 := by decide
  split
  · rename_i q
    have q' := Int64.lt_iff_toInt_lt.mp q
    rw [e0] at q'
    rw [Int64.toInt_neg]
    rw [Int.bmod_eq_of_le (by omega) (by omega)]
    omega
  · rename_i q
    have q' : ¬ x.toInt < 0 := fun z => q (Int64.lt_iff_toInt_lt.mpr (by rw [e0]; exact z))
    omega
theorem abL_int {x : Int64} (h : inR x = true) : (abL x).toInt = x.toInt.natAbs := by
  have k := inR_iff.mp h
  unfold abL
  have e0 : (0 : Int64).toInt = 0 := by decide
  split
  · rename_i q
    have q' := Int64.lt_iff_toInt_lt.mp q
    rw [e0] at q'
    omega
  · rename_i q
    have q' : ¬ 0 < x.toInt := fun z => q (Int64.lt_iff_toInt_lt.mpr (by rw [e0]; exact z))
    rw [Int64.toInt_neg]
    rw [Int.bmod_eq_of_le (by omega) (by omega)]
    omega
/-- a division that asks whether a product is too large -/
theorem div_lt {a b : Int64} (ha : 0 < a.toInt) (hb : 0 ≤ b.toInt) : (1000000000000 / a < b) ↔ 1000000000000 < a.toInt * b.toInt := by
  have e : (1000000000000 : Int64).toInt = 1000000000000 := by decide
  rw [Int64.lt_iff_toInt_lt, Int64.toInt_div, e]
  have d1 : (1000000000000 : Int).tdiv a.toInt = 1000000000000 / a.toInt := Int.tdiv_eq_ediv_of_nonneg (by omega)
  rw [d1]
  have d2 : 0 ≤ 1000000000000 / a.toInt := Int.ediv_nonneg (by omega) (by omega)
  have d3 : 1000000000000 / a.toInt ≤ 1000000000000 := Int.ediv_le_self _ (by omega)
  rw [Int.bmod_eq_of_le (by omega) (by omega)]
  rw [Int.ediv_lt_iff_lt_mul ha, Int.mul_comm]
theorem zero_int {x : Int64} : x = 0 ↔ x.toInt = 0 := by
  rw [← Int64.toInt_inj]
  exact Iff.rfl
theorem ti_or {x y : Int64} (hx : inR x = true) (hy : inR y = true) : (tiS x y = none ∧ prF 0 x y = true) ∨ (tiS x y = some (prV 0 x y) ∧ prF 0 x y = false ∧ inR (prV 0 x y) = true) := by
  have kx := inR_iff.mp hx
  have ky := inR_iff.mp hy
  have nx := abL_int hx
  have ny := abL_int hy
  have mx := ab0_int hx
  have my := ab0_int hy
  have nn : (x.toInt.natAbs : Int) * y.toInt.natAbs = (x.toInt * y.toInt).natAbs := by rw [Int.natAbs_mul]; rfl
  by_cases big : 1000000000000 < (x.toInt * y.toInt).natAbs
  · left
    have x0 : ¬ x = 0 := fun q => by
      rw [zero_int.mp q] at big
      simp at big
    have y0 : ¬ y = 0 := fun q => by
      rw [zero_int.mp q] at big
      simp at big
    have xp : 0 < (abL x).toInt := by
      rw [nx]
      have : ¬ x.toInt = 0 := fun q => x0 (zero_int.mpr q)
      omega
    have yp : 0 < (ab0 y).toInt := by
      rw [my]
      have : ¬ y.toInt = 0 := fun q => y0 (zero_int.mpr q)
      omega
    have c1 : 1000000000000 / abL x < abL y := (div_lt xp (by rw [ny]; omega)).mpr (by rw [nx, ny, nn]; omega)
    have c2 : 1000000000000 / ab0 y < ab0 x := (div_lt yp (by rw [mx]; omega)).mpr (by rw [mx, my, Int.mul_comm, nn]; omega)
    refine ⟨by unfold tiS; rw [if_pos ⟨x0, c1⟩], ?_⟩
    unfold prF prB
    rw [decide_eq_true ⟨rfl, y0, c2⟩]
    rfl
  · right
    have c1 : ¬ (¬ x = 0 ∧ 1000000000000 / abL x < abL y) := fun q => by
      have xp : 0 < (abL x).toInt := by
        rw [nx]
        have : ¬ x.toInt = 0 := fun z => q.1 (zero_int.mpr z)
        omega
      have z := (div_lt xp (by rw [ny]; omega)).mp q.2
      rw [nx, ny, nn] at z
      omega
    have c2 : ¬ (0 = 0 ∧ ¬ y = 0 ∧ 1000000000000 / ab0 y < ab0 x) := fun q => by
      have yp : 0 < (ab0 y).toInt := by
        rw [my]
        have : ¬ y.toInt = 0 := fun z => q.2.1 (zero_int.mpr z)
        omega
      have z := (div_lt yp (by rw [mx]; omega)).mp q.2.2
      rw [mx, my, Int.mul_comm, nn] at z
      omega
    have hB : prB 0 x y = false := by
      unfold prB
      exact decide_eq_false c2
    have hV : prV 0 x y = x * y := by
      unfold prV
      rw [hB]
      rfl
    have hr : inR (x * y) = true := by
      rw [inR_iff, Int64.toInt_mul, Int.bmod_eq_of_le (by omega) (by omega)]
      omega
    refine ⟨by unfold tiS; rw [if_neg c1, hV], ?_, by rw [hV]; exact hr⟩
    unfold prF
    rw [hB]
    show (false || !inR (x * y)) = false
    rw [hr]
    rfl
theorem pr_or {k : Nat} {x y : Int64} (hk : k < 4) (hx : inR x = true) (hy : inR y = true) : (prS k x y = none ∧ prF k x y = true) ∨ (prS k x y = some (prV k x y) ∧ prF k x y = false ∧ inR (prV k x y) = true) := by
  obtain rfl | rfl | rfl | rfl : k = 0 ∨ k = 1 ∨ k = 2 ∨ k = 3 := by omega
  · exact ti_or hx hy
  · have hB : prB 1 x y = false := by simp [prB]
    have hV : prV 1 x y = x + y := by unfold prV; rw [hB]; rfl
    have hF : prF 1 x y = !inR (x + y) := by unfold prF; rw [hB]; rfl
    rw [hV, hF]
    show (plS x y = none ∧ _) ∨ (plS x y = _ ∧ _)
    unfold plS
    cases h : inR (x + y) with
    | false => exact Or.inl ⟨by simp, rfl⟩
    | true => exact Or.inr ⟨by simp, rfl, rfl⟩
  · have hB : prB 2 x y = false := by simp [prB]
    have hV : prV 2 x y = if ¬ x = 0 ∧ ¬ y = 0 then 1 else 0 := by unfold prV; rw [hB]; rfl
    have hr : inR (if ¬ x = 0 ∧ ¬ y = 0 then 1 else 0) = true := by
      split
      · exact inR_1
      · exact inR_0
    have hF : prF 2 x y = false := by
      unfold prF
      rw [hB]
      show (false || !inR (if ¬ x = 0 ∧ ¬ y = 0 then 1 else 0)) = false
      rw [hr]
      rfl
    exact Or.inr ⟨by rw [hV]; rfl, hF, by rw [hV]; exact hr⟩
  · have hB : prB 3 x y = false := by simp [prB]
    have hV : prV 3 x y = if x < y then x else y := by unfold prV; rw [hB]; rfl
    have hr : inR (if x < y then x else y) = true := by
      split
      · exact hx
      · exact hy
    have hF : prF 3 x y = false := by
      unfold prF
      rw [hB]
      show (false || !inR (if x < y then x else y)) = false
      rw [hr]
      rfl
    have e : miL x y = if x < y then x else y := by
      show (if y < x then y else x) = if x < y then x else y
      by_cases h : y < x
      · rw [if_pos h, if_neg (Int64.not_lt.mpr (Int64.le_of_lt h))]
      · rw [if_neg h]
        by_cases h2 : x < y
        · rw [if_pos h2]
        · rw [if_neg h2]
          exact Int64.le_antisymm (Int64.not_lt.mp h) (Int64.not_lt.mp h2)
    exact Or.inr ⟨by rw [hV, ← e]; rfl, hF, by rw [hV]; exact hr⟩
end PQ2
