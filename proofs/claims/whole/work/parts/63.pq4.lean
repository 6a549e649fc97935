/-! zeroes dropped, products, the whole of a matrix -/
section PQ4
variable {M : DS} {s : SS}
theorem fl_nest2 {σ : Type} {f : Nat → Nat → σ → σ} {R C : Nat} (hR : R ≤ 8) (hC : C ≤ 8) (s : σ) : fl (fun i s => fl (f i) 0 C s) 0 R s = fl (fun p s => if p / 8 < R ∧ p % 8 < C then f (p / 8) (p % 8) s else s) 0 64 s := by
  have k := fl_nest (f := f) hR hC s
  rw [Option.bind_some] at k
  have e : fo (fun p s => if p / 8 < R ∧ p % 8 < C then some (f (p / 8) (p % 8) s) else some s) 0 64 s = fo (fun p s => some (if p / 8 < R ∧ p % 8 < C then f (p / 8) (p % 8) s else s)) 0 64 s :=
    fo_cong 64 0 s (fun p s _ _ => by split <;> rfl)
  rw [e, fo_fl] at k
  exact Option.some.inj k
theorem dz_at {S : Mx} {R C : Nat} (hR : R ≤ 8) (hC : C ≤ 8) : (fl (dzi C) 0 R S).1 = S.1 ∧ (fl (dzi C) 0 R S).2.1 = S.2.1 ∧ ∀ p, p < 64 → mVal (fl (dzi C) 0 R S) p = mVal S p ∧ mHas (fl (dzi C) 0 R S) p = (mHas S p && !decide (p / 8 < R ∧ p % 8 < C ∧ mVal S p = 0)) := by
  have e : some (fl (dzi C) 0 R S) = _ := fl_nest (f := dzj) hR hC S
  have key := sim (f := fun p S => if p / 8 < R ∧ p % 8 < C then some (dzj (p / 8) (p % 8) S) else some S) (g := fun _ (t : Unit) => t) (fun i o _ => ∃ S', o = some S' ∧ S'.1 = S.1 ∧ S'.2.1 = S.2.1 ∧ ∀ p, p < 64 → mVal S' p = mVal S p ∧ mHas S' p = if p < i then (mHas S p && !decide (p / 8 < R ∧ p % 8 < C ∧ mVal S p = 0)) else mHas S p) (N := 64) ?_ 64 0 (some S) () (by omega) ⟨S, rfl, rfl, rfl, fun p _ => ⟨rfl, by rw [if_neg (by omega)]⟩⟩
  · rw [← e] at key
    obtain ⟨S', h1, h2, h3, h4⟩ := key
    cases h1
    refine ⟨h2, h3, fun p hp => ?_⟩
    have := h4 p hp
    rw [if_pos hp] at this
    exact this
  · rintro i o t hi ⟨S', rfl, h2, h3, h4⟩
    have pp := p8 i
    have hi4 := h4 i hi
    rw [if_neg (by omega)] at hi4
    show ∃ S'', (if i / 8 < R ∧ i % 8 < C then some (dzj (i / 8) (i % 8) S') else some S') = some S'' ∧ _
    by_cases c : (i / 8 < R ∧ i % 8 < C) ∧ mHas S' i = true ∧ mVal S' i = 0
    · refine ⟨mRem S' i, ?_, h2, h3, fun p hp => ?_⟩
      · rw [if_pos c.1]
        unfold dzj
        rw [pp, if_pos c.2]
      · rw [val_r, has_r]
        have := h4 p hp
        refine ⟨this.1, ?_⟩
        by_cases q : p = i
        · subst q
          rw [if_pos rfl, if_pos (by omega), decide_eq_true ⟨c.1.1, c.1.2, by rw [← hi4.1]; exact c.2.2⟩]
          simp
        · rw [if_neg q, this.2]
          by_cases q2 : p < i
          · rw [if_pos q2, if_pos (by omega)]
          · rw [if_neg q2, if_neg (by omega)]
    · refine ⟨S', ?_, h2, h3, fun p hp => ?_⟩
      · by_cases c1 : i / 8 < R ∧ i % 8 < C
        · rw [if_pos c1]
          unfold dzj
          rw [pp, if_neg (fun z => c ⟨c1, z⟩)]
        · rw [if_neg c1]
      · have := h4 p hp
        refine ⟨this.1, ?_⟩
        rw [this.2]
        by_cases q : p = i
        · subst q
          rw [if_neg (by omega), if_pos (by omega)]
          cases hh : mHas S p with
          | false => rfl
          | true =>
            rw [decide_eq_false (fun z => c ⟨⟨z.1, z.2.1⟩, by rw [hi4.2]; exact hh, by rw [hi4.1]; exact z.2.2⟩)]
            rfl
        · by_cases q2 : p < i
          · rw [if_pos q2, if_pos (by omega)]
          · rw [if_neg q2, if_neg (by omega)]
theorem q_dz {S : Mx} {w : WS} {hg wd k : Nat} (h : MW S w hg wd) (hk : k < 4) (hb : hg ≤ 8 ∧ wd ≤ 8) : FW (dz k S) w hg wd (nI k) := by
  by_cases c : k = 0 ∨ k = 2
  · have hz : kz (nI k) = false := by
      rcases c with rfl | rfl <;> decide
    have e : dz k S = fl (dzi S.2.1) 0 S.1 S := by
      unfold dz
      rw [if_pos c]
    have d := dz_at (S := S) (R := S.1) (C := S.2.1) (by rw [h.1]; exact hb.1) (by rw [h.2.1]; exact hb.2)
    rw [e]
    refine ⟨by rw [d.1]; exact h.1, by rw [d.2.1]; exact h.2.1, fun p hp => ?_⟩
    have d2 := d.2.2 p hp
    have k2 := h.2.2 p hp
    simp only [Pl] at k2 ⊢
    rw [d2.1, d2.2, hz, Bool.or_false]
    cases hh : mHas S p with
    | false =>
      rw [hh] at k2
      rw [← k2.1]
      exact ⟨rfl, fun z => by cases z⟩
    | true =>
      have k3 := k2.2 hh
      rw [← k2.1, hh, ← k3.1]
      have e1 : decide (p / 8 < S.1 ∧ p % 8 < S.2.1 ∧ mVal S p = 0) = decide (mVal S p = 0) := by
        rw [h.1, h.2.1]
        simp [k3.2.2]
      rw [e1]
      refine ⟨by simp, fun z => ⟨rfl, k3.2⟩⟩
  · have hz : kz (nI k) = true := by
      obtain rfl | rfl : k = 1 ∨ k = 3 := by omega
      · decide
      · decide
    have e : dz k S = S := by
      unfold dz
      rw [if_neg c]
    rw [e]
    exact FW_of h hz
theorem enter2 {S : Mx} {p : Nat} {v x : Int64} : mEnter (mEnter S p v) p x = mEnter S p x := by
  unfold mEnter
  have e1 : vp_updL (vp_updL S.2.2.1 p v) p x = vp_updL S.2.2.1 p x := by
    funext q
    unfold vp_updL
    split <;> rfl
  have e2 : va_up (va_up S.2.2.2 p true) p true = va_up S.2.2.2 p true := by
    funext q
    unfold va_up
    split <;> rfl
  simp only [e1, e2]
theorem hes {S : Mx} {p : Nat} {v : Int64} : mHas (mEnter S p v) p = true ∧ mVal (mEnter S p v) p = v := by
  rw [has_e, val_e, if_pos rfl, if_pos rfl]
  exact ⟨rfl, rfl⟩
/-- one place of a product -/
theorem q_cr (h : Rel M s) {a c k i j : Nat} (ha : a < 6) (hc : c < 6) (hk : k < 4) (hi : i < 8) (hj : j < 8) {S : Mx} {w : WS} {hg wd : Nat} (hS : MW S w hg wd) (hf : w.1 = false) (h1 : i < hg) (h2 : j < wd) (hn : mHas S (8 * i + j) = false) : Sm (fo (gpS k (M a) (M c) i j) 0 (M a).2.1 S) (crS s w a c k i j) hg wd ∧ (∀ S', fo (gpS k (M a) (M c) i j) 0 (M a).2.1 S = some S' → ∀ q, ¬ q = 8 * i + j → mHas S' q = mHas S q) := by
  have kk := h.sh ha
  have key := sim (f := gpS k (M a) (M c) i j) (g := crj s a c k i j) (fun _ o z => match o with
    | none => z.2.2 = true
    | some S' => z.2.2 = false ∧ (z.1 = false → S' = S) ∧ (z.1 = true → S' = mEnter S (8 * i + j) z.2.1 ∧ inR z.2.1 = true)) (N := (M a).2.1) ?_ (M a).2.1 0 (some S) (false, 0, w.1) (by omega) ⟨hf, fun _ => rfl, fun z => by cases z⟩
  · rw [Option.bind_some] at key
    have e : fl (crj s a c k i j) 0 (M a).2.1 (false, 0, w.1) = crZ s w a c k i j := by
      unfold crZ
      rw [kk.2.1]
    rw [e] at key
    unfold crS
    cases hr : fo (gpS k (M a) (M c) i j) 0 (M a).2.1 S with
    | none =>
      rw [hr] at key
      have key : (crZ s w a c k i j).2.2 = true := key
      refine ⟨?_, fun S' z => by cases z⟩
      show (if _ then _ else _ : WS).1 = true
      split
      · exact key
      · exact key
    | some S' =>
      rw [hr] at key
      obtain ⟨z1, z2, z3⟩ := key
      cases hz : (crZ s w a c k i j).1 with
      | false =>
        have e1 := z2 hz
        subst e1
        rw [if_neg (by simp)]
        refine ⟨⟨z1, hS⟩, fun S'' e q _ => by cases e; rfl⟩
      | true =>
        have e1 := z3 hz
        rw [if_pos rfl, e1.1]
        refine ⟨⟨z1, MW_e (by omega) (by omega) e1.2 hS⟩, fun S'' e q hq => ?_⟩
        cases e
        rw [has_e, if_neg hq]
  · intro t o z ht hI
    have ht8 : t < 8 := by omega
    have qa := h.pl (p := 8 * i + t) ha (by omega)
    have qc := h.pl (p := 8 * t + j) hc (by omega)
    rw [← Nat.add_assoc] at qa qc
    cases o with
    | none =>
      have hI : z.2.2 = true := hI
      show (crj s a c k i j t z).2.2 = true
      unfold crj
      rw [if_pos hI]
      exact hI
    | some S' =>
      obtain ⟨z1, z2, z3⟩ := hI
      show match gpS k (M a) (M c) i j t S' with
        | none => _
        | some S' => _
      unfold gpS crj
      rw [if_neg (show ¬ z.2.2 = true by rw [z1]; simp)]
      by_cases hh : mHas (M a) (8 * i + t) = true ∧ mHas (M c) (8 * t + j) = true
      · have qa2 := qa.2 hh.1
        have qc2 := qc.2 hh.2
        rw [if_pos hh, if_pos ⟨by rw [← qa.1]; exact hh.1, by rw [← qc.1]; exact hh.2⟩, ← qa2.1, ← qc2.1]
        rcases pr_or hk qa2.2.1 qc2.2.1 with ⟨e1, e2⟩ | ⟨e1, e2, e3⟩
        · rw [e1, e2]
          show (if z.1 = true then _ else _ : Bool) = true
          split
          · simp
          · simp
        · rw [e1, Option.bind_some, e2]
          unfold gaS
          cases hz : z.1 with
          | false =>
            have q := z2 hz
            subst q
            rw [hn]
            refine ⟨?_, fun y => (by cases y), fun _ => ⟨rfl, e3⟩⟩
            show (z.2.2 || false) = false
            rw [z1]
            rfl
          | true =>
            have q := z3 hz
            rw [q.1, hes.1, hes.2]
            simp only [if_true]
            rcases su_or hk q.2 e3 with ⟨f1, f2⟩ | ⟨f1, f2⟩
            · rw [f1, f2]
              show ((z.2.2 || false) || true) = true
              simp
            · rw [f1, f2]
              refine ⟨?_, fun y => (by cases y), fun _ => ⟨enter2, rfl⟩⟩
              show ((z.2.2 || false) || !true) = false
              rw [z1]
              rfl
      · rw [if_neg hh, if_neg (fun y => hh ⟨by rw [qa.1]; exact y.1, by rw [qc.1]; exact y.2⟩)]
        exact ⟨z1, z2, z3⟩
theorem cr_f {s : SS} {w : WS} {a c k i j : Nat} (hf : w.1 = true) : (crS s w a c k i j).1 = true := by
  have e : (crZ s w a c k i j).2.2 = true := by
    unfold crZ
    rw [cr_far hf]
    exact hf
  unfold crS
  split
  · exact e
  · exact e
theorem jo_f {s : SS} {a k : Nat} : ∀ (n i : Nat) (w : WS), w.1 = true → (fl (joj s a k) i n w).1 = true
  | 0, _, _, h => h
  | n + 1, i, w, h => by
    show (fl (joj s a k) (i + 1) n (joj s a k i w)).1 = true
    refine jo_f n (i + 1) _ ?_
    unfold joj
    split
    · split
      · show (w.1 || _) = true
        rw [h]
        rfl
      · exact h
    · exact h
theorem q_mu (h : Rel M s) {to a c k hw : Nat} {mk : Nat → Bool} (hto : to < 6) (ha : a < 6) (hc : c < 6) (hk : k < 4) (hf3 : ¬ 2 ≤ hw ∨ (s.1 to = s.1 a ∧ s.2.1 to = s.2.1 c)) (F : Mx) (w : WS) : Sm ((fo (muI k (M c).2.1 (M a) (M c) mk) 0 (M a).1 (mClear F (M a).1 (M c).2.1)).bind (fun S => if decide (2 ≤ hw) = true then gA k (M to) S else some S)) (mrS s to a c k hw mk (bgS w)) (s.1 a) (s.2.1 c) := by
  have kk := h.sh ha
  have kc := h.sh hc
  have e : fo (muI k (M c).2.1 (M a) (M c) mk) 0 (M a).1 (mClear F (M a).1 (M c).2.1) = _ := fo_nest (f := muj k (M a) (M c) mk) (R := (M a).1) (C := (M c).2.1) kk.2.2.1 kc.2.2.2 (mClear F (M a).1 (M c).2.1)
  have e2 : fl (mri s a c k (s.2.1 c) mk) 0 (s.1 a) (bgS w) = _ := fl_nest2 (f := mrj s a c k mk) (R := s.1 a) (C := s.2.1 c) (by rw [← kk.1]; exact kk.2.2.1) (by rw [← kc.2.1]; exact kc.2.2.2) (bgS w)
  have key := sim (f := fun p S => if p / 8 < (M a).1 ∧ p % 8 < (M c).2.1 then muj k (M a) (M c) mk (p / 8) (p % 8) S else some S) (g := fun p w => if p / 8 < s.1 a ∧ p % 8 < s.2.1 c then mrj s a c k mk (p / 8) (p % 8) w else w) (fun i o w => match o with
    | none => w.1 = true
    | some S => w.1 = false ∧ MW S w (s.1 a) (s.2.1 c) ∧ ∀ q, i ≤ q → q < 64 → mHas S q = false) (N := 64) ?_ 64 0 (some (mClear F (M a).1 (M c).2.1)) (bgS w) (by omega) ⟨rfl, by rw [kk.1, kc.2.1]; exact MW_0, fun q _ hq => clear_no hq⟩
  · rw [Option.bind_some, ← e, ← e2] at key
    unfold mrS
    cases hr : fo (muI k (M c).2.1 (M a) (M c) mk) 0 (M a).1 (mClear F (M a).1 (M c).2.1) with
    | none =>
      rw [hr] at key
      have key : (fl (mri s a c k (s.2.1 c) mk) 0 (s.1 a) (bgS w)).1 = true := key
      show (if _ then _ else _ : WS).1 = true
      split
      · unfold joS
        exact jo_f 64 0 _ key
      · exact key
    | some S =>
      rw [hr] at key
      obtain ⟨z1, z2, _⟩ := key
      rw [Option.bind_some]
      by_cases h2 : 2 ≤ hw
      · rw [if_pos (decide_eq_true h2), if_pos h2]
        rcases hf3 with q | q
        · exact absurd h2 q
        · exact q_gA h hto hk q ⟨z1, z2⟩
      · rw [if_neg (by rw [decide_eq_false h2]; simp), if_neg h2]
        exact ⟨z1, z2⟩
  · intro p o w hp hI
    have pp := p8 p
    cases o with
    | none =>
      have hI : w.1 = true := hI
      show (if _ then _ else w : WS).1 = true
      split
      · unfold mrj
        split
        · exact cr_f hI
        · exact hI
      · exact hI
    | some S =>
      obtain ⟨z1, z2, z3⟩ := hI
      show match (if p / 8 < (M a).1 ∧ p % 8 < (M c).2.1 then muj k (M a) (M c) mk (p / 8) (p % 8) S else some S) with
        | none => _
        | some S => _
      by_cases c1 : p / 8 < s.1 a ∧ p % 8 < s.2.1 c
      · rw [if_pos c1, if_pos (by rw [kk.1, kc.2.1]; exact c1)]
        unfold muj mrj
        by_cases c2 : mk (8 * (p / 8) + p % 8) = true
        · rw [if_pos c2, if_pos c2]
          have q := q_cr h ha hc hk (i := p / 8) (j := p % 8) (by omega) (by omega) z2 z1 c1.1 c1.2 (by rw [pp]; exact z3 p (by omega) hp)
          cases hr : fo (gpS k (M a) (M c) (p / 8) (p % 8)) 0 (M a).2.1 S with
          | none =>
            rw [hr] at q
            exact q.1
          | some S' =>
            rw [hr] at q
            refine ⟨q.1.1, q.1.2, fun y hy hy2 => ?_⟩
            rw [q.2 S' rfl y (by omega)]
            exact z3 y (by omega) hy2
        · rw [if_neg c2, if_neg c2]
          exact ⟨z1, z2, fun y hy hy2 => z3 y (by omega) hy2⟩
      · rw [if_neg c1, if_neg (by rw [kk.1, kc.2.1]; exact c1)]
        exact ⟨z1, z2, fun y hy hy2 => z3 y (by omega) hy2⟩
/-- all values into one -/
theorem q_rd (h : Rel M s) {a k : Nat} (ha : a < 6) (hk : k < 4) (F : Mx) : match fo (rdi k (M a)) 0 (M a).1 (mClear F 1 1) with
    | none => (rqZ s a k).2.2 = true
    | some S => (rqZ s a k).2.2 = false ∧ mHas S 0 = (rqZ s a k).1 ∧ ((rqZ s a k).1 = true → mVal S 0 = (rqZ s a k).2.1) ∧ ((rqZ s a k).1 = false → ∀ p, p < 64 → mHas (M a) p = false) ∧ ((rqZ s a k).1 = true → ∃ p, p < 64 ∧ mHas (M a) p = true) := by
  have kk := h.sh ha
  have e : fo (rdi k (M a)) 0 (M a).1 (mClear F 1 1) = _ := fo_nest (f := rdj k (M a)) (R := (M a).1) (C := (M a).2.1) kk.2.2.1 kk.2.2.2 (mClear F 1 1)
  have key := sim (f := fun p S => if p / 8 < (M a).1 ∧ p % 8 < (M a).2.1 then rdj k (M a) (p / 8) (p % 8) S else some S) (g := rqj s a k) (fun i o z => match o with
    | none => z.2.2 = true
    | some S => z.2.2 = false ∧ mHas S 0 = z.1 ∧ (z.1 = true → mVal S 0 = z.2.1 ∧ inR z.2.1 = true) ∧ (z.1 = false → ∀ p, p < i → mHas (M a) p = false) ∧ (z.1 = true → ∃ p, p < 64 ∧ mHas (M a) p = true)) (N := 64) ?_ 64 0 (some (mClear F 1 1)) (false, 0, false) (by omega) ⟨rfl, clear_no (by omega), fun z => (by cases z), fun _ p hp => absurd hp (by omega), fun z => by cases z⟩
  · rw [Option.bind_some, ← e] at key
    have e3 : fl (rqj s a k) 0 64 (false, 0, false) = rqZ s a k := by
      unfold rqZ
      rfl
    rw [e3] at key
    cases hr : fo (rdi k (M a)) 0 (M a).1 (mClear F 1 1) with
    | none => rw [hr] at key; exact key
    | some S =>
      rw [hr] at key
      exact ⟨key.1, key.2.1, fun z => (key.2.2.1 z).1, key.2.2.2.1, key.2.2.2.2⟩
  · intro p o z hp hI
    have q := h.pl ha hp
    have pp := p8 p
    cases o with
    | none =>
      have hI : z.2.2 = true := hI
      show (rqj s a k p z).2.2 = true
      unfold rqj
      rw [if_pos hI]
      exact hI
    | some S =>
      obtain ⟨z1, z2, z3, z4, z5⟩ := hI
      show match (if p / 8 < (M a).1 ∧ p % 8 < (M a).2.1 then rdj k (M a) (p / 8) (p % 8) S else some S) with
        | none => _
        | some S => _
      unfold rqj
      rw [if_neg (show ¬ z.2.2 = true by rw [z1]; simp)]
      cases hh : mHas (M a) p with
      | true =>
        have q2 := q.2 hh
        have ec : (if p / 8 < (M a).1 ∧ p % 8 < (M a).2.1 then rdj k (M a) (p / 8) (p % 8) S else some S) = gaS k S 0 (mVal (M a) p) := by
          rw [if_pos ⟨by rw [kk.1]; exact q2.2.2.1, by rw [kk.2.1]; exact q2.2.2.2⟩]
          unfold rdj
          rw [pp, hh]
          simp
        rw [ec, ← q.1, hh, ← q2.1]
        simp only [if_true]
        unfold gaS
        rw [z2]
        cases hz : z.1 with
        | false =>
          refine ⟨?_, hes.1, fun _ => ⟨hes.2, q2.2.1⟩, fun y => (by cases y), fun _ => ⟨p, hp, hh⟩⟩
          simpa using z1
        | true =>
          have z3' := z3 hz
          simp only [if_true]
          rw [z3'.1]
          rcases su_or hk z3'.2 q2.2.1 with ⟨f1, f2⟩ | ⟨f1, f2⟩
          · rw [f1, f2]
            show (z.2.2 || !false) = true
            simp
          · rw [f1, f2]
            refine ⟨?_, hes.1, fun _ => ⟨hes.2, rfl⟩, fun y => (by cases y), fun _ => ⟨p, hp, hh⟩⟩
            show (z.2.2 || !true) = false
            rw [z1]
            rfl
      | false =>
        have ec : (if p / 8 < (M a).1 ∧ p % 8 < (M a).2.1 then rdj k (M a) (p / 8) (p % 8) S else some S) = some S := by
          unfold rdj
          rw [pp, hh]
          simp
        rw [ec, ← q.1, hh]
        simp only [Bool.false_eq_true, if_false]
        refine ⟨z1, z2, z3, fun y r hr => ?_, z5⟩
        by_cases er : r = p
        · subst er
          exact hh
        · exact z4 y r (by omega)
theorem cnt_pos {f : Nat → Bool} : ∀ n p, p < n → f p = true → ¬ cnt f n = 0
  | 0, p, h, _ => absurd h (by omega)
  | n + 1, p, h, hp => by
    show ¬ cnt f n + _ = 0
    by_cases e : p = n
    · subst e
      rw [hp]
      simp
    · have := cnt_pos n p (by omega) hp
      omega
theorem cnt_none {f : Nat → Bool} : ∀ n, (∀ p, p < n → f p = false) → cnt f n = 0
  | 0, _ => rfl
  | n + 1, h => by
    show cnt f n + _ = 0
    rw [cnt_none n (fun p hp => h p (by omega)), h n (by omega)]
    rfl
theorem Rel.en (h : Rel M s) {a : Nat} (ha : a < 6) : cnt (M a).2.2.2 64 = en s.2.2.1 a := en_cnt (fun p hp => (h.pl ha hp).1)
end PQ4
