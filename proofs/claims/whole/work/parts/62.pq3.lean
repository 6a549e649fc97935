/-! each, add, multiply, reduce -/
section PQ3
variable {M : DS} {s : SS}
theorem Sm_none {w : WS} {hg wd : Nat} (h : w.1 = true) : Sm none w hg wd := h
theorem Sm_some {S : Mx} {w : WS} {hg wd : Nat} (h1 : w.1 = false) (h : MW S w hg wd) : Sm (some S) w hg wd := ⟨h1, h⟩
theorem mk_1 {w : WS} {q : Nat} {v : Int64} : (mkS w q v).1 = w.1 := rfl
theorem MW_f {S : Mx} {w : WS} {f : Bool} {hg wd : Nat} (h : MW S w hg wd) : MW S (f, w.2) hg wd := h
theorem MW_id {S : Mx} {w : WS} {hg wd q : Nat} (h : MW S w hg wd) (hq : q < 64) (hh : mHas S q = true) : MW S (w.1, va_up w.2.1 q true, vp_updL w.2.2 q (mVal S q)) hg wd :=
  ⟨h.1, h.2.1, fun p hp => by
    have k := h.2.2 p hp
    simp only [Pl] at k ⊢
    unfold va_up vp_updL
    by_cases e : p = q
    · subst e
      simp only [if_true]
      exact ⟨hh, fun _ => ⟨trivial, (k.2 hh).2⟩⟩
    · simp only [if_neg e]
      exact k⟩
theorem q_ea (h : Rel M s) {a c k : Nat} (ha : a < 6) (hc : c < 6) (hk : k < 4) (hsh : s.1 a = s.1 c ∧ s.2.1 a = s.2.1 c) (F : Mx) (w : WS) : Sm (fo (eaI k (M a).2.1 (M a) (M c)) 0 (M a).1 (mClear F (M a).1 (M a).2.1)) (epS s a c k (bgS w)) (s.1 a) (s.2.1 a) := by
  have kk := h.sh ha
  have e : fo (eaI k (M a).2.1 (M a) (M c)) 0 (M a).1 (mClear F (M a).1 (M a).2.1) = _ := fo_nest (f := eaj k (M a) (M c)) (R := (M a).1) (C := (M a).2.1) kk.2.2.1 kk.2.2.2 (mClear F (M a).1 (M a).2.1)
  rw [e]
  have key := sim (f := fun p S => if p / 8 < (M a).1 ∧ p % 8 < (M a).2.1 then eaj k (M a) (M c) (p / 8) (p % 8) S else some S) (g := epj s a c k) (fun _ o w => Sm o w (s.1 a) (s.2.1 a)) (N := 64) ?_ 64 0 (some (mClear F (M a).1 (M a).2.1)) (bgS w) (by omega) ⟨rfl, by rw [kk.1, kk.2.1]; exact MW_0⟩
  · rw [Option.bind_some] at key
    unfold epS
    exact key
  intro p o w hp hI
  have q := h.pl ha hp
  have qc := h.pl hc hp
  have pp := p8 p
  unfold epj
  rw [pp]
  cases o with
  | none =>
    have hI : w.1 = true := hI
    show (if _ then _ else w : WS).1 = true
    split
    · rw [mk_1]
      show (w.1 || _) = true
      rw [hI]
      rfl
    · exact hI
  | some S =>
    obtain ⟨hf, hS⟩ := hI
    show Sm (if p / 8 < (M a).1 ∧ p % 8 < (M a).2.1 then eaj k (M a) (M c) (p / 8) (p % 8) S else some S) _ _ _
    by_cases hh : mHas (M a) p = true ∧ mHas (M c) p = true
    · have q2 := q.2 hh.1
      have qc2 := qc.2 hh.2
      rw [if_pos ⟨by rw [kk.1]; exact q2.2.2.1, by rw [kk.2.1]; exact q2.2.2.2⟩, if_pos ⟨by rw [← q.1]; exact hh.1, by rw [← qc.1]; exact hh.2⟩]
      unfold eaj
      rw [pp, if_pos hh, ← q2.1, ← qc2.1]
      rcases pr_or hk q2.2.1 qc2.2.1 with ⟨e1, e2⟩ | ⟨e1, e2, e3⟩
      · rw [e1, e2]
        show (w.1 || true) = true
        rw [Bool.or_true]
      · rw [e1, e2]
        refine ⟨?_, MW_e q2.2.2.1 q2.2.2.2 e3 (MW_f hS)⟩
        show (w.1 || false) = false
        rw [hf]
        rfl
    · have e2 : (if p / 8 < (M a).1 ∧ p % 8 < (M a).2.1 then eaj k (M a) (M c) (p / 8) (p % 8) S else some S) = some S := by
        unfold eaj
        rw [pp, if_neg hh]
        split <;> rfl
      rw [e2, if_neg (fun z => hh ⟨by rw [q.1]; exact z.1, by rw [qc.1]; exact z.2⟩)]
      exact ⟨hf, hS⟩
/-- one value more at a place, on both sides -/
theorem q_ga {k q : Nat} {S : Mx} {w : WS} {hg wd : Nat} {v : Int64} (hk : k < 4) (hq : q < 64) (h1 : q / 8 < hg) (h2 : q % 8 < wd) (hv : inR v = true) (hf : w.1 = false) (hS : MW S w hg wd) :
    Sm (gaS k S q v) (if w.2.1 q = true then (w.1 || !inR (su0 k (w.2.2 q) v), va_up w.2.1 q true, vp_updL w.2.2 q (su0 k (w.2.2 q) v)) else mkS w q v) hg wd := by
  have p0 := hS.2.2 q hq
  unfold gaS
  cases hh : mHas S q with
  | false =>
    rw [← p0.1, hh]
    exact ⟨hf, MW_e h1 h2 hv hS⟩
  | true =>
    have p1 := p0.2 hh
    rw [← p0.1, hh]
    simp only [if_true]
    rw [← p1.1]
    rcases su_or hk p1.2.1 hv with ⟨e1, e2⟩ | ⟨e1, e2⟩
    · rw [e1, e2]
      show (w.1 || true) = true
      rw [Bool.or_true]
    · rw [e1, e2]
      refine ⟨?_, MW_e h1 h2 e2 hS⟩
      show (w.1 || false) = false
      rw [hf]
      rfl
/-- a register added to what is there: the class by rows and columns, the reference by places; g: the reference's step -/
theorem q_gA (h : Rel M s) {a k hg wd : Nat} (ha : a < 6) (hk : k < 4) (hsh : s.1 a = hg ∧ s.2.1 a = wd) {S : Mx} {w : WS} (h0 : Sm (some S) w hg wd) : Sm (gA k (M a) S) (joS s a k w) hg wd := by
  have kk := h.sh ha
  have e : gA k (M a) S = _ := fo_nest (f := gAj k (M a)) (R := (M a).1) (C := (M a).2.1) kk.2.2.1 kk.2.2.2 S
  rw [e]
  have key := sim (f := fun p S => if p / 8 < (M a).1 ∧ p % 8 < (M a).2.1 then gAj k (M a) (p / 8) (p % 8) S else some S) (g := joj s a k) (fun _ o w => Sm o w hg wd) (N := 64) ?_ 64 0 (some S) w (by omega) h0
  · rw [Option.bind_some] at key
    unfold joS
    exact key
  intro p o w hp hI
  have q := h.pl ha hp
  have pp := p8 p
  unfold joj
  cases o with
  | none =>
    have hI : w.1 = true := hI
    show (if _ then _ else w : WS).1 = true
    split
    · split
      · show (w.1 || _) = true
        rw [hI]
        rfl
      · exact hI
    · exact hI
  | some S =>
    obtain ⟨hf, hS⟩ := hI
    show Sm (if p / 8 < (M a).1 ∧ p % 8 < (M a).2.1 then gAj k (M a) (p / 8) (p % 8) S else some S) _ _ _
    cases hh : mHas (M a) p with
    | true =>
      have q2 := q.2 hh
      rw [if_pos ⟨by rw [kk.1]; exact q2.2.2.1, by rw [kk.2.1]; exact q2.2.2.2⟩, ← q.1, hh]
      simp only [if_true]
      unfold gAj
      rw [pp, hh, ← q2.1]
      simp only [if_true]
      rw [su_comm hk]
      exact q_ga hk hp (by rw [← hsh.1]; exact q2.2.2.1) (by rw [← hsh.2]; exact q2.2.2.2) q2.2.1 hf hS
    | false =>
      rw [← q.1, hh]
      have e2 : (if p / 8 < (M a).1 ∧ p % 8 < (M a).2.1 then gAj k (M a) (p / 8) (p % 8) S else some S) = some S := by
        unfold gAj
        rw [pp, hh]
        simp
      rw [e2]
      exact ⟨hf, hS⟩
theorem gA_first (h : Rel M s) {a k : Nat} (ha : a < 6) (F : Mx) (x y : Nat) : ∃ S, gA k (M a) (mClear F x y) = some S ∧ S.1 = x ∧ S.2.1 = y ∧ ∀ p, p < 64 → mHas S p = mHas (M a) p ∧ (mHas S p = true → mVal S p = mVal (M a) p) := by
  have kk := h.sh ha
  have e : gA k (M a) (mClear F x y) = _ := fo_nest (f := gAj k (M a)) (R := (M a).1) (C := (M a).2.1) kk.2.2.1 kk.2.2.2 (mClear F x y)
  rw [e]
  have key := sim (f := fun p S => if p / 8 < (M a).1 ∧ p % 8 < (M a).2.1 then gAj k (M a) (p / 8) (p % 8) S else some S) (g := fun _ (t : Unit) => t) (fun i o _ => ∃ S, o = some S ∧ S.1 = x ∧ S.2.1 = y ∧ ∀ p, p < 64 → if p < i then mHas S p = mHas (M a) p ∧ (mHas S p = true → mVal S p = mVal (M a) p) else mHas S p = false) (N := 64) ?_ 64 0 (some (mClear F x y)) () (by omega) ⟨_, rfl, rfl, rfl, fun p hp => by rw [if_neg (by omega)]; exact clear_no hp⟩
  · rw [Option.bind_some] at key
    obtain ⟨S, h1, h2, h3, h4⟩ := key
    exact ⟨S, h1, h2, h3, fun p hp => by have := h4 p hp; rw [if_pos hp] at this; exact this⟩
  · rintro i o t hi ⟨S, rfl, h2, h3, h4⟩
    have q := h.pl ha hi
    have pp := p8 i
    have hno : mHas S i = false := by
      have := h4 i hi
      rw [if_neg (by omega)] at this
      exact this
    show ∃ S', (if i / 8 < (M a).1 ∧ i % 8 < (M a).2.1 then gAj k (M a) (i / 8) (i % 8) S else some S) = some S' ∧ _
    cases hh : mHas (M a) i with
    | false =>
      refine ⟨S, ?_, h2, h3, fun p hp => ?_⟩
      · unfold gAj
        rw [pp, hh]
        simp
      · have := h4 p hp
        by_cases c : p < i
        · rw [if_pos c] at this
          rw [if_pos (by omega)]
          exact this
        · rw [if_neg c] at this
          by_cases c2 : p = i
          · subst c2
            rw [if_pos (by omega), hno, hh]
            exact ⟨rfl, fun z => by cases z⟩
          · rw [if_neg (by omega)]
            exact this
    | true =>
      have q2 := q.2 hh
      refine ⟨mEnter S i (mVal (M a) i), ?_, h2, h3, fun p hp => ?_⟩
      · rw [if_pos ⟨by rw [kk.1]; exact q2.2.2.1, by rw [kk.2.1]; exact q2.2.2.2⟩]
        unfold gAj gaS
        rw [pp, hh, hno]
        simp
      · have := h4 p hp
        rw [has_e, val_e]
        by_cases c2 : p = i
        · subst c2
          rw [if_pos (by omega)]
          simp [hh]
        · simp only [if_neg c2]
          by_cases c : p < i
          · rw [if_pos c] at this
            rw [if_pos (by omega)]
            exact this
          · rw [if_neg c] at this
            rw [if_neg (by omega)]
            exact this
theorem q_ad (h : Rel M s) {a c k : Nat} (ha : a < 6) (hc : c < 6) (hk : k < 4) (hsh : s.1 a = s.1 c ∧ s.2.1 a = s.2.1 c) (F : Mx) (w : WS) : Sm ((gA k (M a) (mClear F (M a).1 (M a).2.1)).bind (gA k (M c))) (adS s a c k (bgS w)) (s.1 a) (s.2.1 a) := by
  have kk := h.sh ha
  have kc := h.sh hc
  obtain ⟨S0, e0, z1, z2, z3⟩ := gA_first h (k := k) ha F (M a).1 (M a).2.1
  rw [e0, Option.bind_some]
  have e : gA k (M c) S0 = _ := fo_nest (f := gAj k (M c)) (R := (M c).1) (C := (M c).2.1) kc.2.2.1 kc.2.2.2 S0
  rw [e]
  have key := sim (f := fun p S => if p / 8 < (M c).1 ∧ p % 8 < (M c).2.1 then gAj k (M c) (p / 8) (p % 8) S else some S) (g := adj s a c k) (fun i o w => match o with
    | none => w.1 = true
    | some S => w.1 = false ∧ S.1 = s.1 a ∧ S.2.1 = s.2.1 a ∧ ∀ p, p < 64 → if p < i then Pl S w.2.1 w.2.2 (s.1 a) (s.2.1 a) p else (w.2.1 p = false ∧ mHas S p = mHas (M a) p ∧ (mHas S p = true → mVal S p = mVal (M a) p))) (N := 64) ?_ 64 0 (some S0) (bgS w) (by omega) ⟨rfl, by rw [z1]; exact kk.1, by rw [z2]; exact kk.2.1, fun p hp => by rw [if_neg (by omega)]; exact ⟨bg_at hp, z3 p hp⟩⟩
  · rw [Option.bind_some] at key
    unfold adS
    cases hr : fo (fun p S => if p / 8 < (M c).1 ∧ p % 8 < (M c).2.1 then gAj k (M c) (p / 8) (p % 8) S else some S) 0 64 S0 with
    | none => rw [hr] at key; exact key
    | some S =>
      rw [hr] at key
      exact ⟨key.1, key.2.1, key.2.2.1, fun p hp => by have := key.2.2.2 p hp; rw [if_pos hp] at this; exact this⟩
  · intro i o w hi hI
    have qa := h.pl ha hi
    have qc := h.pl hc hi
    have pp := p8 i
    unfold adj
    rw [pp]
    cases o with
    | none =>
      have hI : w.1 = true := hI
      show (if _ then _ else _ : WS).1 = true
      split
      · split
        · rw [mk_1]
          show (w.1 || _) = true
          rw [hI]
          rfl
        · exact hI
      · split
        · exact hI
        · exact hI
    | some S =>
      obtain ⟨hf, h1, h2, h3⟩ := hI
      have hi3 := h3 i hi
      rw [if_neg (by omega)] at hi3
      obtain ⟨t0, t1, t2⟩ := hi3
      have others : ∀ (te : Nat → Bool) (md : Nat → Int64) (S' : Mx), (∀ p, ¬ p = i → te p = w.2.1 p ∧ md p = w.2.2 p ∧ mHas S' p = mHas S p ∧ mVal S' p = mVal S p) → Pl S' te md (s.1 a) (s.2.1 a) i → ∀ p, p < 64 → if p < i + 1 then Pl S' te md (s.1 a) (s.2.1 a) p else (te p = false ∧ mHas S' p = mHas (M a) p ∧ (mHas S' p = true → mVal S' p = mVal (M a) p)) := by
        intro te md S' ho hp' p hp
        by_cases c : p = i
        · subst c
          rw [if_pos (by omega)]
          exact hp'
        · have o1 := ho p c
          have := h3 p hp
          by_cases c2 : p < i
          · rw [if_pos c2] at this
            rw [if_pos (by omega)]
            simp only [Pl] at this ⊢
            rw [o1.1, o1.2.1, o1.2.2.1, o1.2.2.2]
            exact this
          · rw [if_neg c2] at this
            rw [if_neg (by omega), o1.1, o1.2.2.1, o1.2.2.2]
            exact this
      have upo : ∀ (v : Int64) (p : Nat), ¬ p = i → (va_up w.2.1 i true) p = w.2.1 p ∧ (vp_updL w.2.2 i v) p = w.2.2 p := fun v p c => by simp [va_up, vp_updL, c]
      have eno : ∀ (v : Int64) (p : Nat), ¬ p = i → mHas (mEnter S i v) p = mHas S p ∧ mVal (mEnter S i v) p = mVal S p := fun v p c => by rw [has_e, val_e, if_neg c, if_neg c]; exact ⟨rfl, rfl⟩
      show match (if i / 8 < (M c).1 ∧ i % 8 < (M c).2.1 then gAj k (M c) (i / 8) (i % 8) S else some S) with
        | none => _
        | some S => _
      cases hc2 : mHas (M c) i with
      | true =>
        have qc2 := qc.2 hc2
        have ec : (if i / 8 < (M c).1 ∧ i % 8 < (M c).2.1 then gAj k (M c) (i / 8) (i % 8) S else some S) = gaS k S i (mVal (M c) i) := by
          rw [if_pos ⟨by rw [kc.1]; exact qc2.2.2.1, by rw [kc.2.1]; exact qc2.2.2.2⟩]
          unfold gAj
          rw [pp, hc2]
          simp
        rw [ec, ← qa.1, ← qc.1, hc2, ← qc2.1]
        unfold gaS
        cases ha2 : mHas (M a) i with
        | true =>
          have qa2 := qa.2 ha2
          rw [t1, ha2] at t2
          rw [t1, ha2, t2 rfl, ← qa2.1]
          simp only [if_true]
          rcases su_or hk qa2.2.1 qc2.2.1 with ⟨e1, e2⟩ | ⟨e1, e2⟩
          · rw [e1, e2]
            show (w.1 || true) = true
            rw [Bool.or_true]
          · rw [e1, e2]
            refine ⟨?_, h1, h2, others _ _ _ (fun p c => ⟨(upo 0 p c).1, (upo _ p c).2, eno _ p c⟩) ?_⟩
            · show (w.1 || false) = false
              rw [hf]
              rfl
            · simp only [Pl]
              rw [has_e, val_e]
              simp [mkS, va_up, vp_updL, e2, qa2.2.2]
        | false =>
          rw [t1, ha2]
          simp only [if_true, Bool.false_eq_true, if_false]
          refine ⟨hf, h1, h2, others _ _ _ (fun p c => ⟨(upo 0 p c).1, (upo _ p c).2, eno _ p c⟩) ?_⟩
          simp only [Pl]
          rw [has_e, val_e]
          simp [mkS, va_up, vp_updL, qc2.2.1, hsh.1, hsh.2, qc2.2.2]
      | false =>
        have ec : (if i / 8 < (M c).1 ∧ i % 8 < (M c).2.1 then gAj k (M c) (i / 8) (i % 8) S else some S) = some S := by
          unfold gAj
          rw [pp, hc2]
          simp
        rw [ec, ← qa.1, ← qc.1, hc2]
        cases ha2 : mHas (M a) i with
        | true =>
          have qa2 := qa.2 ha2
          rw [t1, ha2] at t2
          simp only [if_true, Bool.false_eq_true, if_false]
          refine ⟨hf, h1, h2, others _ _ _ (fun p c => ⟨(upo 0 p c).1, (upo _ p c).2, rfl, rfl⟩) ?_⟩
          simp only [Pl]
          rw [t1, ha2, t2 rfl]
          rw [← qa2.1]
          simp [mkS, va_up, vp_updL, qa2.2.1, qa2.2.2]
        | false =>
          simp only [Bool.false_eq_true, if_false]
          refine ⟨hf, h1, h2, others _ _ _ (fun p c => ⟨rfl, rfl, rfl, rfl⟩) ?_⟩
          simp only [Pl]
          rw [t1, ha2, t0]
          exact ⟨rfl, fun z => by cases z⟩
end PQ3
