/-! The desk's world: seven matrices by their place (0 .. 5 the registers, 6 the spare one), at addresses ad. -/
section DW
abbrev Mx : Type := Nat × Nat × (Nat → Int64) × (Nat → Bool)
abbrev DS : Type := Nat → Mx
def b2 (b : Bool) : Int32 := if b then 1 else 0
def wl (ad : Nat → Nat) (n : Nat) (f : Nat → va_E) : va_W := (List.range n).map (fun i => (ad i, f i))
theorem wl_get {ad : Nat → Nat} {n : Nat} {f : Nat → va_E} {i : Nat} (h : i < n) : (wl ad n f)[i]? = some (ad i, f i) := by
  unfold wl
  rw [List.getElem?_map, List.getElem?_range h]
  rfl
theorem wl_set {ad : Nat → Nat} {n : Nat} {f : Nat → va_E} {i : Nat} (e : va_E) : (wl ad n f).set i (ad i, e) = wl ad n (va_up f i e) := by
  apply List.ext_getElem?
  intro k
  unfold wl
  rw [List.getElem?_set, List.getElem?_map, List.getElem?_map]
  by_cases hk : i = k
  · subst hk
    by_cases hn : i < n
    · simp [hn, va_up]
    · simp [hn, List.getElem?_eq_none]
  · rw [if_neg hk]
    by_cases hn : k < n
    · rw [List.getElem?_range hn]
      have : ¬ k = i := fun q => hk q.symm
      simp [va_up, this]
    · rw [List.getElem?_eq_none (by simp; omega)]
      rfl
theorem wl_D {ad : Nat → Nat} {n : Nat} {f : Nat → va_E} {A : Nat → Prop} (hi : ∀ i j, i < n → j < n → ad i = ad j → i = j) (hA : ∀ i, i < n → A (ad i)) : va_D A (wl ad n f) := by
  have key : ∀ (k : Nat) (q : Nat × va_E), (wl ad n f)[k]? = some q → k < n ∧ q = (ad k, f k) := by
    intro k q hk
    by_cases hn : k < n
    · rw [wl_get hn] at hk
      exact ⟨hn, (Option.some.inj hk).symm⟩
    · unfold wl at hk
      rw [List.getElem?_eq_none (by simp; omega)] at hk
      cases hk
  refine ⟨fun i j p q h1 h2 h3 => ?_, fun k q h1 => ?_⟩
  · obtain ⟨a1, rfl⟩ := key i p h1
    obtain ⟨a2, rfl⟩ := key j q h2
    exact hi i j a1 a2 h3
  · obtain ⟨a1, rfl⟩ := key k q h1
    exact hA k a1
/-- the address of a matrix, of its values, of its marks -/
def mq (ad : Nat → Nat) (r : Nat) : Nat := ad (3 * r + 2)
def vq (ad : Nat → Nat) (r : Nat) : Nat := ad (3 * r + 3)
def fq (ad : Nat → Nat) (r : Nat) : Nat := ad (3 * r + 4)
def df (δ : EX) (ad : Nat → Nat) (M : DS) (i : Nat) : va_E :=
  if i = 0 then .inr (0, [.ref (ad 1), .ref (mq ad 6)])
  else if i = 1 then .inl (δ.2 3, 6, .inr (.inr (.inr (.inr (fun r => if r < 6 then some (mq ad r) else none)))))
  else if i % 3 = 2 then .inr (1, [.int (nI (M (i / 3)).1), .int (nI (M (i / 3)).2.1), .ref (vq ad (i / 3)), .ref (fq ad (i / 3))])
  else if i % 3 = 0 then .inl (δ.2 1, 64, .inr (.inl (M (i / 3 - 1)).2.2.1))
  else .inl (δ.2 2, 64, .inl (fun p => b2 ((M (i / 3 - 1)).2.2.2 p)))
def dl (δ : EX) (ad : Nat → Nat) (M : DS) : va_W := wl ad 23 (df δ ad M)
/-- the desk's own cells -/
def Ar (ad : Nat → Nat) : Nat → Prop := fun q => ∃ i, i < 23 ∧ q = ad i
def Inj (ad : Nat → Nat) : Prop := ∀ i j, i < 23 → j < 23 → ad i = ad j → i = j
variable {δ : EX} {ad : Nat → Nat} {M : DS} {r : Nat}
theorem df_m : df δ ad M (3 * r + 2) = .inr (1, [.int (nI (M r).1), .int (nI (M r).2.1), .ref (vq ad r), .ref (fq ad r)]) := by
  have h1 : (3 * r + 2) % 3 = 2 := by omega
  have h2 : (3 * r + 2) / 3 = r := by omega
  have h3 : ¬ 3 * r + 2 = 0 := by omega
  have h4 : ¬ 3 * r + 2 = 1 := by omega
  simp only [df, h1, h2, h3, h4, if_true, if_false]
theorem df_v : df δ ad M (3 * r + 3) = .inl (δ.2 1, 64, .inr (.inl (M r).2.2.1)) := by
  have h1 : (3 * r + 3) % 3 = 0 := by omega
  have h2 : (3 * r + 3) / 3 - 1 = r := by omega
  have h3 : ¬ 3 * r + 3 = 0 := by omega
  have h4 : ¬ 3 * r + 3 = 1 := by omega
  have h5 : ¬ (0 : Nat) = 2 := by omega
  simp only [df, h1, h2, h3, h4, h5, if_true, if_false]
theorem df_f : df δ ad M (3 * r + 4) = .inl (δ.2 2, 64, .inl (fun p => b2 ((M r).2.2.2 p))) := by
  have h1 : (3 * r + 4) % 3 = 1 := by omega
  have h2 : (3 * r + 4) / 3 - 1 = r := by omega
  have h3 : ¬ 3 * r + 4 = 0 := by omega
  have h4 : ¬ 3 * r + 4 = 1 := by omega
  have h5 : ¬ (1 : Nat) = 2 := by omega
  have h6 : ¬ (1 : Nat) = 0 := by omega
  simp only [df, h1, h2, h3, h4, h5, h6, if_true, if_false]
theorem dl_0 : (dl δ ad M)[0]? = some (ad 0, .inr (0, [.ref (ad 1), .ref (mq ad 6)])) := wl_get (by omega)
theorem dl_1 : (dl δ ad M)[1]? = some (ad 1, .inl (δ.2 3, 6, .inr (.inr (.inr (.inr (fun r => if r < 6 then some (mq ad r) else none)))))) := wl_get (by omega)
theorem dl_m (h : r < 7) : (dl δ ad M)[3 * r + 2]? = some (mq ad r, .inr (1, [.int (nI (M r).1), .int (nI (M r).2.1), .ref (vq ad r), .ref (fq ad r)])) := by
  have := wl_get (ad := ad) (f := df δ ad M) (show 3 * r + 2 < 23 by omega)
  rw [df_m] at this
  exact this
theorem dl_v (h : r < 7) : (dl δ ad M)[3 * r + 3]? = some (vq ad r, .inl (δ.2 1, 64, .inr (.inl (M r).2.2.1))) := by
  have := wl_get (ad := ad) (f := df δ ad M) (show 3 * r + 3 < 23 by omega)
  rw [df_v] at this
  exact this
theorem dl_f (h : r < 7) : (dl δ ad M)[3 * r + 4]? = some (fq ad r, .inl (δ.2 2, 64, .inl (fun p => b2 ((M r).2.2.2 p)))) := by
  have := wl_get (ad := ad) (f := df δ ad M) (show 3 * r + 4 < 23 by omega)
  rw [df_f] at this
  exact this
theorem df_um (x y : Nat) : va_up (df δ ad M) (3 * r + 2) (.inr (1, [.int (nI x), .int (nI y), .ref (vq ad r), .ref (fq ad r)])) = df δ ad (va_up M r (x, y, (M r).2.2)) := by
  funext i
  by_cases h : i = 3 * r + 2
  · subst h
    rw [df_m]
    simp [va_up]
  · by_cases a0 : i = 0
    · subst a0; simp [va_up, df]
    by_cases a1 : i = 1
    · subst a1
      have : ¬ 1 = 3 * r + 2 := h
      simp [va_up, df, this]
    have e : va_up (df δ ad M) (3 * r + 2) (.inr (1, [.int (nI x), .int (nI y), .ref (vq ad r), .ref (fq ad r)])) i = df δ ad M i := by simp [va_up, h]
    rw [e]
    unfold df
    rw [if_neg a0, if_neg a0, if_neg a1, if_neg a1]
    by_cases b2' : i % 3 = 2
    · rw [if_pos b2', if_pos b2']
      have : ¬ i / 3 = r := by omega
      simp [va_up, this]
    · rw [if_neg b2', if_neg b2']
      by_cases c : i / 3 - 1 = r
      · simp [va_up, c]
      · simp [va_up, c]
theorem df_uv (g : Nat → Int64) : va_up (df δ ad M) (3 * r + 3) (.inl (δ.2 1, 64, .inr (.inl g))) = df δ ad (va_up M r ((M r).1, (M r).2.1, g, (M r).2.2.2)) := by
  funext i
  by_cases h : i = 3 * r + 3
  · subst h
    rw [df_v]
    simp [va_up]
  · by_cases a0 : i = 0
    · subst a0; simp [va_up, df]
    by_cases a1 : i = 1
    · subst a1
      have : ¬ 1 = 3 * r + 3 := h
      simp [va_up, df, this]
    have e : va_up (df δ ad M) (3 * r + 3) (.inl (δ.2 1, 64, .inr (.inl g))) i = df δ ad M i := by simp [va_up, h]
    rw [e]
    unfold df
    rw [if_neg a0, if_neg a0, if_neg a1, if_neg a1]
    by_cases b2' : i % 3 = 2
    · rw [if_pos b2', if_pos b2']
      by_cases c : i / 3 = r
      · simp [va_up, c]
      · simp [va_up, c]
    · rw [if_neg b2', if_neg b2']
      by_cases b0 : i % 3 = 0
      · rw [if_pos b0, if_pos b0]
        have : ¬ i / 3 - 1 = r := by omega
        simp [va_up, this]
      · rw [if_neg b0, if_neg b0]
        by_cases c : i / 3 - 1 = r
        · simp [va_up, c]
        · simp [va_up, c]
theorem df_uf (g : Nat → Bool) : va_up (df δ ad M) (3 * r + 4) (.inl (δ.2 2, 64, .inl (fun p => b2 (g p)))) = df δ ad (va_up M r ((M r).1, (M r).2.1, (M r).2.2.1, g)) := by
  funext i
  by_cases h : i = 3 * r + 4
  · subst h
    rw [df_f]
    simp [va_up]
  · by_cases a0 : i = 0
    · subst a0; simp [va_up, df]
    by_cases a1 : i = 1
    · subst a1
      have : ¬ 1 = 3 * r + 4 := h
      simp [va_up, df, this]
    have e : va_up (df δ ad M) (3 * r + 4) (.inl (δ.2 2, 64, .inl (fun p => b2 (g p)))) i = df δ ad M i := by simp [va_up, h]
    rw [e]
    unfold df
    rw [if_neg a0, if_neg a0, if_neg a1, if_neg a1]
    by_cases b2' : i % 3 = 2
    · rw [if_pos b2', if_pos b2']
      by_cases c : i / 3 = r
      · simp [va_up, c]
      · simp [va_up, c]
    · rw [if_neg b2', if_neg b2']
      by_cases b0 : i % 3 = 0
      · rw [if_pos b0, if_pos b0]
        by_cases c : i / 3 - 1 = r
        · simp [va_up, c]
        · simp [va_up, c]
      · rw [if_neg b0, if_neg b0]
        have : ¬ i / 3 - 1 = r := by omega
        simp [va_up, this]
theorem dl_um (x y : Nat) : (dl δ ad M).set (3 * r + 2) (mq ad r, .inr (1, [.int (nI x), .int (nI y), .ref (vq ad r), .ref (fq ad r)])) = dl δ ad (va_up M r (x, y, (M r).2.2)) := by
  unfold dl
  rw [← df_um]
  exact wl_set _
theorem dl_uv (g : Nat → Int64) : (dl δ ad M).set (3 * r + 3) (vq ad r, .inl (δ.2 1, 64, .inr (.inl g))) = dl δ ad (va_up M r ((M r).1, (M r).2.1, g, (M r).2.2.2)) := by
  unfold dl
  rw [← df_uv]
  exact wl_set _
theorem dl_uf (g : Nat → Bool) : (dl δ ad M).set (3 * r + 4) (fq ad r, .inl (δ.2 2, 64, .inl (fun p => b2 (g p)))) = dl δ ad (va_up M r ((M r).1, (M r).2.1, (M r).2.2.1, g)) := by
  unfold dl
  rw [← df_uf]
  exact wl_set _
theorem dl_D {A : Nat → Prop} (hi : Inj ad) (hA : ∀ q, Ar ad q → A q) : va_D A (dl δ ad M) := wl_D hi (fun i h => hA _ ⟨i, h, rfl⟩)
end DW
