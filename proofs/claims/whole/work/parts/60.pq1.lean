/-! Class and reference held against each other: loops, the relation, what a result leaves. -/
section PQ1
theorem fo_app {σ : Type} (f : Nat → σ → Option σ) : ∀ (n m i : Nat) (s : σ), fo f i (n + m) s = (fo f i n s).bind (fo f (i + n) m)
  | 0, m, i, s => by
    rw [Nat.zero_add, Nat.add_zero]
    rfl
  | n + 1, m, i, s => by
    rw [Nat.add_right_comm n 1 m]
    show (f i s).bind (fo f (i + 1) (n + m)) = ((f i s).bind (fo f (i + 1) n)).bind (fo f (i + (n + 1)) m)
    cases f i s with
    | none => rfl
    | some s' =>
      show fo f (i + 1) (n + m) s' = (fo f (i + 1) n s').bind (fo f (i + (n + 1)) m)
      rw [fo_app f n m (i + 1) s', Nat.add_right_comm i 1 n]
      rfl
theorem fo_fl {σ : Type} (f : Nat → σ → σ) : ∀ (n i : Nat) (s : σ), fo (fun i s => some (f i s)) i n s = some (fl f i n s)
  | 0, _, _ => rfl
  | n + 1, i, s => fo_fl f n (i + 1) (f i s)
theorem fo_cong {σ : Type} {f g : Nat → σ → Option σ} : ∀ (n i : Nat) (s : σ), (∀ j s, i ≤ j → j < i + n → f j s = g j s) → fo f i n s = fo g i n s
  | 0, _, _, _ => rfl
  | n + 1, i, s, h => by
    show (f i s).bind (fo f (i + 1) n) = (g i s).bind (fo g (i + 1) n)
    rw [h i s (by omega) (by omega)]
    cases g i s with
    | none => rfl
    | some s' => exact fo_cong n (i + 1) s' (fun j s h1 h2 => h j s (by omega) (by omega))
theorem fo_id {σ : Type} {f : Nat → σ → Option σ} : ∀ (n i : Nat) (s : σ), (∀ j s, i ≤ j → j < i + n → f j s = some s) → fo f i n s = some s
  | 0, _, _, _ => rfl
  | n + 1, i, s, h => by
    show (f i s).bind (fo f (i + 1) n) = some s
    rw [h i s (by omega) (by omega)]
    exact fo_id n (i + 1) s (fun j s h1 h2 => h j s (by omega) (by omega))
theorem fo_guard {σ : Type} {f : Nat → σ → Option σ} {C N : Nat} (h : C ≤ N) (s : σ) : fo (fun j s => if j < C then f j s else some s) 0 N s = fo f 0 C s := by
  obtain ⟨m, rfl⟩ := Nat.exists_eq_add_of_le h
  rw [fo_app]
  rw [fo_cong (g := f) C 0 s (fun j s _ h2 => if_pos (by omega))]
  cases fo f 0 C s with
  | none => rfl
  | some s' => exact fo_id m _ s' (fun j s h1 _ => if_neg (by omega))
theorem fo_shift {σ : Type} {F : Nat → σ → Option σ} {a : Nat} : ∀ (n b : Nat) (s : σ), fo F (a + b) n s = fo (fun j => F (a + j)) b n s
  | 0, _, _ => rfl
  | n + 1, b, s => by
    show (F (a + b) s).bind (fo F (a + b + 1) n) = (F (a + b) s).bind (fo (fun j => F (a + j)) (b + 1) n)
    cases F (a + b) s with
    | none => rfl
    | some s' => exact fo_shift n (b + 1) s'
theorem fo_flat {σ : Type} {F : Nat → σ → Option σ} : ∀ (n i : Nat) (s : σ), fo F (8 * i) (8 * n) s = fo (fun i s => fo (fun j => F (8 * i + j)) 0 8 s) i n s
  | 0, _, _ => rfl
  | n + 1, i, s => by
    have e : 8 * (n + 1) = 8 + 8 * n := by omega
    rw [e, fo_app]
    show _ = (fo (fun j => F (8 * i + j)) 0 8 s).bind (fo (fun i s => fo (fun j => F (8 * i + j)) 0 8 s) (i + 1) n)
    have e2 : fo F (8 * i) 8 s = fo (fun j => F (8 * i + j)) 0 8 s := fo_shift (a := 8 * i) 8 0 s
    rw [e2]
    cases fo (fun j => F (8 * i + j)) 0 8 s with
    | none => rfl
    | some s' =>
      have e3 : 8 * i + 8 = 8 * (i + 1) := by omega
      show fo F (8 * i + 8) (8 * n) s' = _
      rw [e3]
      exact fo_flat n (i + 1) s'
/-- two loops, one in the other, as one over 64 places -/
theorem fo_nest {σ : Type} {f : Nat → Nat → σ → Option σ} {R C : Nat} (hR : R ≤ 8) (hC : C ≤ 8) (s : σ) : fo (fun i s => fo (f i) 0 C s) 0 R s = fo (fun p s => if p / 8 < R ∧ p % 8 < C then f (p / 8) (p % 8) s else some s) 0 64 s := by
  have e := fo_flat (F := fun p s => if p / 8 < R ∧ p % 8 < C then f (p / 8) (p % 8) s else some s) 8 0 s
  have e0 : fo (fun p s => if p / 8 < R ∧ p % 8 < C then f (p / 8) (p % 8) s else some s) 0 64 s = _ := e
  rw [e0]
  rw [← fo_guard (f := fun i s => fo (f i) 0 C s) hR s]
  refine fo_cong 8 0 s (fun i s _ hi => ?_)
  by_cases h : i < R
  · rw [if_pos h, ← fo_guard (f := f i) hC s]
    refine fo_cong 8 0 s (fun j s _ hj => ?_)
    have e1 : (8 * i + j) / 8 = i := by omega
    have e2 : (8 * i + j) % 8 = j := by omega
    simp only [e1, e2]
    by_cases hj2 : j < C
    · rw [if_pos hj2, if_pos ⟨h, hj2⟩]
    · rw [if_neg hj2, if_neg (fun q => hj2 q.2)]
  · rw [if_neg h]
    refine (fo_id 8 0 s (fun j s _ hj => ?_)).symm
    have e1 : (8 * i + j) / 8 = i := by omega
    simp only [e1]
    rw [if_neg (fun q => h q.1)]
/-- two loops side by side -/
theorem sim {σ τ : Type} {f : Nat → σ → Option σ} {g : Nat → τ → τ} (I : Nat → Option σ → τ → Prop) {N : Nat} (step : ∀ i o t, i < N → I i o t → I (i + 1) (o.bind (f i)) (g i t)) : ∀ (n i : Nat) (o : Option σ) (t : τ), i + n = N → I i o t → I N (o.bind (fo f i n)) (fl g i n t)
  | 0, i, o, t, h, hI => by
    have e : i = N := by omega
    subst e
    cases o <;> exact hI
  | n + 1, i, o, t, h, hI => by
    have k := sim I step n (i + 1) (o.bind (f i)) (g i t) (by omega) (step i o t (by omega) hI)
    cases o with
    | none => exact k
    | some s => exact k
theorem vp_s {f : Nat → Int64} {k : Nat} {x : Int64} : vp_updL f k x k = x := if_pos rfl
theorem vp_n {f : Nat → Int64} {k j : Nat} {x : Int64} (h : ¬ j = k) : vp_updL f k x j = f j := if_neg h
/-- a matrix of the class and the reference's working place -/
def Pl (S : Mx) (te : Nat → Bool) (md : Nat → Int64) (hg wd p : Nat) : Prop := mHas S p = te p ∧ (mHas S p = true → mVal S p = md p ∧ inR (mVal S p) = true ∧ p / 8 < hg ∧ p % 8 < wd)
def MW (S : Mx) (w : WS) (hg wd : Nat) : Prop := S.1 = hg ∧ S.2.1 = wd ∧ ∀ p, p < 64 → Pl S w.2.1 w.2.2 hg wd p
def Sm (o : Option Mx) (w : WS) (hg wd : Nat) : Prop := match o with
  | none => w.1 = true
  | some S => w.1 = false ∧ MW S w hg wd
/-- the class's registers and the reference's -/
def Rel (M : DS) (s : SS) : Prop := ∀ r, r < 6 → (M r).1 = s.1 r ∧ (M r).2.1 = s.2.1 r ∧ (1 ≤ s.1 r ∧ s.1 r ≤ 8 ∧ 1 ≤ s.2.1 r ∧ s.2.1 r ≤ 8) ∧ ∀ p, p < 64 → Pl (M r) (fun p => s.2.2.1 (64 * r + p)) (fun p => s.2.2.2 (64 * r + p)) (s.1 r) (s.2.1 r) p
theorem tc_at : ∀ (n i : Nat) (h : Nat → Bool) (p : Nat), fl tcj i n h p = if i ≤ p ∧ p < i + n then false else h p
  | 0, i, h, p => by
    show h p = _
    rw [if_neg (by omega)]
  | n + 1, i, h, p => by
    show fl tcj (i + 1) n (tcj i h) p = _
    rw [tc_at n (i + 1) (tcj i h) p]
    by_cases h1 : p = i
    · subst h1
      rw [if_neg (by omega), if_pos (by omega)]
      simp [tcj, va_up]
    · by_cases h2 : i + 1 ≤ p ∧ p < i + 1 + n
      · rw [if_pos h2, if_pos (by omega)]
      · rw [if_neg h2, if_neg (by omega)]
        simp [tcj, va_up, h1]
theorem bg_at {w : WS} {p : Nat} (h : p < 64) : (bgS w).2.1 p = false := by
  show fl tcj 0 64 w.2.1 p = false
  rw [tc_at, if_pos (by omega)]
theorem clear_no {F : Mx} {x y p : Nat} (h : p < 64) : mHas (mClear F x y) p = false := by
  show (if p < 64 then false else F.2.2.2 p) = false
  rw [if_pos h]
theorem MW_0 {F : Mx} {w : WS} {hg wd : Nat} : MW (mClear F hg wd) (bgS w) hg wd :=
  ⟨rfl, rfl, fun p hp => ⟨by rw [clear_no hp, bg_at hp], fun h => by rw [clear_no hp] at h; cases h⟩⟩
theorem has_e {S : Mx} {q p : Nat} {v : Int64} : mHas (mEnter S q v) p = if p = q then true else mHas S p := rfl
theorem val_e {S : Mx} {q p : Nat} {v : Int64} : mVal (mEnter S q v) p = if p = q then v else mVal S p := rfl
theorem has_r {S : Mx} {q p : Nat} : mHas (mRem S q) p = if p = q then false else mHas S p := rfl
theorem val_r {S : Mx} {q p : Nat} : mVal (mRem S q) p = mVal S p := rfl
theorem te_k {w : WS} {q p : Nat} {v : Int64} : (mkS w q v).2.1 p = if p = q then true else w.2.1 p := rfl
theorem md_k {w : WS} {q p : Nat} {v : Int64} : (mkS w q v).2.2 p = if p = q then v else w.2.2 p := rfl
theorem Pl_e {S : Mx} {te : Nat → Bool} {md : Nat → Int64} {hg wd q p : Nat} {v : Int64} (h1 : q / 8 < hg) (h2 : q % 8 < wd) (hv : inR v = true) (h : Pl S te md hg wd p) : Pl (mEnter S q v) (va_up te q true) (vp_updL md q v) hg wd p := by
  unfold Pl at h ⊢
  rw [has_e, val_e]
  unfold va_up vp_updL
  by_cases e : p = q
  · subst e
    simp [hv, h1, h2]
  · simp only [if_neg e]
    exact h
theorem MW_e {S : Mx} {w : WS} {hg wd q : Nat} {v : Int64} (h1 : q / 8 < hg) (h2 : q % 8 < wd) (hv : inR v = true) (h : MW S w hg wd) : MW (mEnter S q v) (mkS w q v) hg wd :=
  ⟨h.1, h.2.1, fun p hp => Pl_e h1 h2 hv (h.2.2 p hp)⟩
/-! what finish leaves -/
theorem fi_at {w : WS} {to : Nat} {x : Int32} : ∀ (n i : Nat) (z : (Nat → Bool) × (Nat → Int64)) (q : Nat), (fl (fij w to x) i n z).1 q = (if 64 * to + i ≤ q ∧ q < 64 * to + i + n then (w.2.1 (q - 64 * to) && (decide (¬ w.2.2 (q - 64 * to) = 0) || kz x)) else z.1 q) ∧ (fl (fij w to x) i n z).2 q = (if 64 * to + i ≤ q ∧ q < 64 * to + i + n then w.2.2 (q - 64 * to) else z.2 q)
  | 0, i, z, q => by
    rw [if_neg (by omega), if_neg (by omega)]
    exact ⟨rfl, rfl⟩
  | n + 1, i, z, q => by
    show (fl (fij w to x) (i + 1) n (fij w to x i z)).1 q = _ ∧ (fl (fij w to x) (i + 1) n (fij w to x i z)).2 q = _
    have k := fi_at (w := w) (to := to) (x := x) n (i + 1) (fij w to x i z) q
    rw [k.1, k.2]
    by_cases h1 : q = 64 * to + i
    · subst h1
      have c1 : ¬ (64 * to + (i + 1) ≤ 64 * to + i ∧ 64 * to + i < 64 * to + (i + 1) + n) := by omega
      have c2 : 64 * to + i ≤ 64 * to + i ∧ 64 * to + i < 64 * to + i + (n + 1) := by omega
      simp only [if_neg c1, if_pos c2]
      have e : 64 * to + i - 64 * to = i := by omega
      rw [e]
      simp [fij, va_up, vp_updL]
    · by_cases h2 : 64 * to + (i + 1) ≤ q ∧ q < 64 * to + (i + 1) + n
      · have c2 : 64 * to + i ≤ q ∧ q < 64 * to + i + (n + 1) := by omega
        simp only [if_pos h2, if_pos c2]
        exact ⟨trivial, trivial⟩
      · have c2 : ¬ (64 * to + i ≤ q ∧ q < 64 * to + i + (n + 1)) := by omega
        simp only [if_neg h2, if_neg c2]
        simp [fij, va_up, vp_updL, h1]
theorem fiH_in {s : SS} {w : WS} {to p : Nat} {x : Int32} (hp : p < 64) : (fiH s w to x).1 (64 * to + p) = (w.2.1 p && (decide (¬ w.2.2 p = 0) || kz x)) ∧ (fiH s w to x).2 (64 * to + p) = w.2.2 p := by
  have k := fi_at (w := w) (to := to) (x := x) 64 0 s.2.2 (64 * to + p)
  rw [if_pos (by omega), if_pos (by omega)] at k
  have e : 64 * to + p - 64 * to = p := by omega
  rw [e] at k
  exact k
theorem fiH_out {s : SS} {w : WS} {to r p : Nat} {x : Int32} (hp : p < 64) (hr : ¬ r = to) : (fiH s w to x).1 (64 * r + p) = s.2.2.1 (64 * r + p) ∧ (fiH s w to x).2 (64 * r + p) = s.2.2.2 (64 * r + p) := by
  have k := fi_at (w := w) (to := to) (x := x) 64 0 s.2.2 (64 * r + p)
  rw [if_neg (by omega), if_neg (by omega)] at k
  exact k
/-- the finished matrix -/
def FW (S : Mx) (w : WS) (hg wd : Nat) (x : Int32) : Prop := S.1 = hg ∧ S.2.1 = wd ∧ ∀ p, p < 64 → Pl S (fun p => w.2.1 p && (decide (¬ w.2.2 p = 0) || kz x)) w.2.2 hg wd p
theorem FW_of {S : Mx} {w : WS} {hg wd : Nat} {x : Int32} (h : MW S w hg wd) (hx : kz x = true) : FW S w hg wd x :=
  ⟨h.1, h.2.1, fun p hp => by
    have k := h.2.2 p hp
    simp only [Pl] at k ⊢
    rw [hx, Bool.or_true, Bool.and_true]
    exact k⟩
theorem Rel_keep {M : DS} {s : SS} {S : Mx} {w : WS} {hg wd to : Nat} {x : Int32} (hR : Rel M s) (hF : FW S w hg wd x) (hb : 1 ≤ hg ∧ hg ≤ 8 ∧ 1 ≤ wd ∧ wd ≤ 8) (hto : to < 6) : Rel (fun k => va_up M 6 S (sw to k)) (fiS s w wd hg to x) := by
  intro r hr
  by_cases e : r = to
  · subst e
    have e1 : va_up M 6 S (sw r r) = S := by simp [sw, va_up]
    simp only [e1]
    have a1 : (fiS s w wd hg r x).1 r = hg := by simp [fiS, va_up]
    have a2 : (fiS s w wd hg r x).2.1 r = wd := by simp [fiS, va_up]
    rw [a1, a2]
    refine ⟨hF.1, hF.2.1, hb, fun p hp => ?_⟩
    have k := hF.2.2 p hp
    simp only [Pl] at k ⊢
    have f := fiH_in (s := s) (w := w) (to := r) (x := x) hp
    have f1 : (fiS s w wd hg r x).2.2.1 (64 * r + p) = _ := f.1
    have f2 : (fiS s w wd hg r x).2.2.2 (64 * r + p) = _ := f.2
    rw [f1, f2]
    exact k
  · have e1 : va_up M 6 S (sw to r) = M r := by
      have : ¬ r = 6 := by omega
      simp [sw, e, this, va_up]
    simp only [e1]
    have a1 : (fiS s w wd hg to x).1 r = s.1 r := by simp [fiS, va_up, e]
    have a2 : (fiS s w wd hg to x).2.1 r = s.2.1 r := by simp [fiS, va_up, e]
    rw [a1, a2]
    have k := hR r hr
    refine ⟨k.1, k.2.1, k.2.2.1, fun p hp => ?_⟩
    have k2 := k.2.2.2 p hp
    simp only [Pl] at k2 ⊢
    have f := fiH_out (s := s) (w := w) (to := to) (x := x) hp e
    have f1 : (fiS s w wd hg to x).2.2.1 (64 * r + p) = _ := f.1
    have f2 : (fiS s w wd hg to x).2.2.2 (64 * r + p) = _ := f.2
    rw [f1, f2]
    exact k2
theorem en_at (h : Nat → Bool) (r : Nat) : ∀ (n i z : Nat), fl (enj h r) i n z + cnt (fun p => h (64 * r + p)) i = z + cnt (fun p => h (64 * r + p)) (i + n)
  | 0, i, z => rfl
  | n + 1, i, z => by
    have k := en_at h r n (i + 1) (enj h r i z)
    have e : i + 1 + n = i + (n + 1) := by omega
    rw [e] at k
    have c : cnt (fun p => h (64 * r + p)) (i + 1) = cnt (fun p => h (64 * r + p)) i + (if h (64 * r + i) = true then 1 else 0) := rfl
    rw [c] at k
    unfold enj at k
    show fl (enj h r) (i + 1) n (enj h r i z) + _ = _
    unfold enj
    omega
theorem cnt_cong {f g : Nat → Bool} : ∀ n, (∀ p, p < n → f p = g p) → cnt f n = cnt g n
  | 0, _ => rfl
  | n + 1, h => by
    show cnt f n + _ = cnt g n + _
    rw [cnt_cong n (fun p hp => h p (by omega)), h n (by omega)]
theorem en_cnt {h : Nat → Bool} {r : Nat} {f : Nat → Bool} (e : ∀ p, p < 64 → f p = h (64 * r + p)) : cnt f 64 = en h r := by
  have k : fl (enj h r) 0 64 0 + cnt (fun p => h (64 * r + p)) 0 = 0 + cnt (fun p => h (64 * r + p)) 64 := en_at h r 64 0 0
  rw [cnt_cong 64 e]
  unfold en
  have c : cnt (fun p => h (64 * r + p)) 0 = 0 := rfl
  rw [c] at k
  omega
theorem FW_cnt {S : Mx} {w : WS} {hg wd to : Nat} {x : Int32} {s : SS} (hF : FW S w hg wd x) : cnt S.2.2.2 64 = en (fiH s w to x).1 to :=
  en_cnt (fun p hp => by
    have k := (hF.2.2 p hp).1
    have f := (fiH_in (s := s) (w := w) (to := to) (x := x) hp).1
    rw [f]
    exact k)
end PQ1
