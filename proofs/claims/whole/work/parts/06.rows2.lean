/-! fields and arrays -/
section GF
variable {κ : KX} {own : String} {cc : ByteArray} {nL : Nat} {rt : Option FieldType} {δ : EX} {rm : Room} {A0 : Nat → Prop} {hh : List (Nat × Nat × Nat × Nat)} {K : Heap → List Loc → Prop} {Q : State → Prop} {cs sl : Nat} {ws : va_W} {lv : List (Nat × Value)} {st : List Value} {pc : Nat}
theorem g_get (X : XO κ own cc nL rt δ rm A0 hh) {idx ci q0 k a : Nat} {fs : List Value} {C : String} {T : u_T} {N : Nat} {v : Value} (hin : ∀ w ∈ u_ws C T N, w ∈ gl) (hc : vwCl[ci]? = some (C, T, N)) (he : ws[q0]? = some (a, .inr (ci, fs))) (hk : k < N) (ho : (T k).1 = C) (hf : Cond.fieldLink own idx C (T k).2.1 (T k).2.2.1 ∈ gl) (hv : fs[k]? = some v) (hd : decode cc pc = .ok (.getfield idx, 3))
    (n : G κ nL δ K Q cs sl ws lv (v :: st) (pc + 3)) : G κ nL δ K Q cs sl ws lv (.ref a :: st) pc :=
  fun H locs ls h hP hK => va_get X.1 X.2.1 (fun w hw => X.wd hw) hin X.ow X.kk hP q0 he hc k hk (X.wd hf) (fun x hx => by rw [ho] at hx; exact hx) hv hd (n H locs ls h hP hK)
theorem g_put (X : XO κ own cc nL rt δ rm A0 hh) {idx ci q0 k a : Nat} {fs : List Value} {C : String} {T : u_T} {N : Nat} {v : Value} {ty0 : Nat → FieldType} {ty : FieldType} (hin : ∀ w ∈ u_ws C T N, w ∈ gl) (hc : vwCl[ci]? = some (C, T, N)) (hty : ∀ k, k < N → parseFieldDescriptor (T k).2.2.1 = some (ty0 k)) (hnm : ∀ a, a < N → ∀ b, b < N → a ≠ b → (T a).2.1 ≠ (T b).2.1)
    (hD : va_D (fun q => A0 q ∨ (xs κ).heap.size ≤ q) ws) (he : ws[q0]? = some (a, .inr (ci, fs))) (hk : k < N) (ho : (T k).1 = C) (hf : Cond.fieldLink own idx C (T k).2.1 (T k).2.2.1 ∈ gl) (hfin : (T k).2.2.2 = false) (hpt : parseFieldDescriptor (T k).2.2.1 = some ty) (hn : narrow ty v = v) (hfit : fits ty v = true) (hl : k < fs.length) (hd : decode cc pc = .ok (.putfield idx, 3))
    (n : G κ nL δ (Kn κ A0) Q cs sl (ws.set q0 (a, .inr (ci, fs.set k v))) lv st (pc + 3)) : G κ nL δ (Kn κ A0) Q cs sl ws lv (v :: .ref a :: st) pc :=
  fun H locs ls h hP hK => va_put X.1 X.2.1 (fun w hw => X.wd hw) hin ty0 hty hnm X.ow X.kk hP hD hK q0 he hc k hk (X.wd hf) (fun x hx => by rw [ho] at hx; exact hx) hfin hpt hn hfit hl hd (fun H1 locs1 h1 _ h3 => n H1 locs1 ls h h1 h3)
theorem g_iald (X : XO κ own cc nL rt δ rm A0 hh) {q0 a n j : Nat} {f : Nat → Int32} {i : Int32} (he : ws[q0]? = some (a, .inl (δ.2 0, n, .inl f))) (hi : i = nI j) (hj : j < n) (h31 : n < 2 ^ 31) (hd : decode cc pc = .ok (.iaload, 1)) (nx : G κ nL δ K Q cs sl ws lv (.int (f j) :: st) (pc + 1)) : G κ nL δ K Q cs sl ws lv (.int i :: .ref a :: st) pc := by
  subst hi
  exact fun H locs ls h hP hK => va_iald X.1 X.2.1 X.kk hP q0 0 he rfl (vp_in_nI hj h31) hd (by rw [nI_clamp (by omega)]; exact nx H locs ls h hP hK)
theorem g_lald (X : XO κ own cc nL rt δ rm A0 hh) {q0 a n j : Nat} {f : Nat → Int64} {i : Int32} (he : ws[q0]? = some (a, .inl (δ.2 1, n, .inr (.inl f)))) (hi : i = nI j) (hj : j < n) (h31 : n < 2 ^ 31) (hd : decode cc pc = .ok (.laload, 1)) (nx : G κ nL δ K Q cs sl ws lv (.long (f j) :: st) (pc + 1)) : G κ nL δ K Q cs sl ws lv (.int i :: .ref a :: st) pc := by
  subst hi
  exact fun H locs ls h hP hK => va_lald X.1 X.2.1 X.kk hP q0 1 he rfl (vp_in_nI hj h31) hd (by rw [nI_clamp (by omega)]; exact nx H locs ls h hP hK)
theorem g_zald (X : XO κ own cc nL rt δ rm A0 hh) {q0 a n j : Nat} {f : Nat → Int32} {i : Int32} (he : ws[q0]? = some (a, .inl (δ.2 2, n, .inl f))) (hi : i = nI j) (hj : j < n) (h31 : n < 2 ^ 31) (hd : decode cc pc = .ok (.baload, 1)) (nx : G κ nL δ K Q cs sl ws lv (.int (f j) :: st) (pc + 1)) : G κ nL δ K Q cs sl ws lv (.int i :: .ref a :: st) pc := by
  subst hi
  exact fun H locs ls h hP hK => va_zald X.1 X.2.1 X.kk hP q0 2 he rfl (vp_in_nI hj h31) hd (by rw [nI_clamp (by omega)]; exact nx H locs ls h hP hK)
theorem g_aald (X : XO κ own cc nL rt δ rm A0 hh) {q0 a n j b : Nat} {f : Nat → Option Nat} {i : Int32} (he : ws[q0]? = some (a, .inl (δ.2 3, n, .inr (.inr (.inr (.inr f)))))) (hi : i = nI j) (hj : j < n) (hb : f j = some b) (h31 : n < 2 ^ 31) (hd : decode cc pc = .ok (.aaload, 1)) (nx : G κ nL δ K Q cs sl ws lv (.ref b :: st) (pc + 1)) : G κ nL δ K Q cs sl ws lv (.int i :: .ref a :: st) pc := by
  subst hi
  exact fun H locs ls h hP hK => va_aldq X.1 X.2.1 X.kk hP q0 3 he rfl (vp_in_nI hj h31) hd (by rw [nI_clamp (by omega), hb]; exact nx H locs ls h hP hK)
theorem g_alen (X : XO κ own cc nL rt δ rm A0 hh) {q0 t0 a n : Nat} {ty : FieldType} {x : (Nat → Int32) ⊕ (Nat → Int64) ⊕ (Nat → UInt32) ⊕ (Nat → UInt64) ⊕ (Nat → Option Nat)} {cA : ClassId} (he : ws[q0]? = some (a, .inl (cA, n, x))) (ht : (tyl δ.2)[t0]? = some (cA, ty)) (hd : decode cc pc = .ok (.arraylength, 1)) (nx : G κ nL δ K Q cs sl ws lv (.int (nI n) :: st) (pc + 1)) : G κ nL δ K Q cs sl ws lv (.ref a :: st) pc :=
  fun H locs ls h hP hK => va_alen X.1 X.2.1 X.kk hP q0 t0 he ht rfl hd (nx H locs ls h hP hK)
theorem g_iast (X : XO κ own cc nL rt δ rm A0 hh) (hD : va_D (fun q => A0 q ∨ (xs κ).heap.size ≤ q) ws) {q0 a n j : Nat} {f : Nat → Int32} {i x : Int32} (he : ws[q0]? = some (a, .inl (δ.2 0, n, .inl f))) (hi : i = nI j) (hj : j < n) (h31 : n < 2 ^ 31) (hd : decode cc pc = .ok (.iastore, 1))
    (nx : G κ nL δ (Kn κ A0) Q cs sl (ws.set q0 (a, .inl (δ.2 0, n, .inl (upd f j x)))) lv st (pc + 1)) : G κ nL δ (Kn κ A0) Q cs sl ws lv (.int x :: .int i :: .ref a :: st) pc := by
  subst hi
  refine fun H locs ls h hP hK => va_iast X.1 X.2.1 X.kk hP hD hK q0 0 he rfl (vp_in_nI hj h31) hd (fun H1 locs1 h1 _ h3 => ?_)
  rw [nI_clamp (by omega)] at h1
  exact nx H1 locs1 ls h h1 h3
theorem g_last (X : XO κ own cc nL rt δ rm A0 hh) (hD : va_D (fun q => A0 q ∨ (xs κ).heap.size ≤ q) ws) {q0 a n j : Nat} {f : Nat → Int64} {i : Int32} {x : Int64} (he : ws[q0]? = some (a, .inl (δ.2 1, n, .inr (.inl f)))) (hi : i = nI j) (hj : j < n) (h31 : n < 2 ^ 31) (hd : decode cc pc = .ok (.lastore, 1))
    (nx : G κ nL δ (Kn κ A0) Q cs sl (ws.set q0 (a, .inl (δ.2 1, n, .inr (.inl (vp_updL f j x))))) lv st (pc + 1)) : G κ nL δ (Kn κ A0) Q cs sl ws lv (.long x :: .int i :: .ref a :: st) pc := by
  subst hi
  refine fun H locs ls h hP hK => va_last X.1 X.2.1 X.kk hP hD hK q0 1 he rfl (vp_in_nI hj h31) hd (fun H1 locs1 h1 _ h3 => ?_)
  rw [nI_clamp (by omega)] at h1
  exact nx H1 locs1 ls h h1 h3
theorem g_zast (X : XO κ own cc nL rt δ rm A0 hh) (hD : va_D (fun q => A0 q ∨ (xs κ).heap.size ≤ q) ws) {q0 a n j : Nat} {f : Nat → Int32} {i x y : Int32} (he : ws[q0]? = some (a, .inl (δ.2 2, n, .inl f))) (hi : i = nI j) (hj : j < n) (h31 : n < 2 ^ 31) (hx : vp_nar .boolean x = y) (hd : decode cc pc = .ok (.bastore, 1))
    (nx : G κ nL δ (Kn κ A0) Q cs sl (ws.set q0 (a, .inl (δ.2 2, n, .inl (upd f j y)))) lv st (pc + 1)) : G κ nL δ (Kn κ A0) Q cs sl ws lv (.int x :: .int i :: .ref a :: st) pc := by
  subst hi
  subst hx
  refine fun H locs ls h hP hK => va_zast X.1 X.2.1 X.kk hP hD hK q0 2 he rfl (vp_in_nI hj h31) hd (fun H1 locs1 h1 _ h3 => ?_)
  rw [nI_clamp (by omega)] at h1
  exact nx H1 locs1 ls h h1 h3
theorem g_aast (X : XO κ own cc nL rt δ rm A0 hh) (hD : va_D (fun q => A0 q ∨ (xs κ).heap.size ≤ q) ws) {q0 qk ci a n j v : Nat} {f : Nat → Option Nat} {vs : List Value} {T : u_T} {N : Nat} {i : Int32} (he : ws[q0]? = some (a, .inl (δ.2 3, n, .inr (.inr (.inr (.inr f)))))) (hv : ws[qk]? = some (v, .inr (ci, vs))) (hc : vwCl[ci]? = some (R_M, T, N)) (hi : i = nI j) (hj : j < n) (h31 : n < 2 ^ 31) (hd : decode cc pc = .ok (.aastore, 1))
    (nx : G κ nL δ (Kn κ A0) Q cs sl (ws.set q0 (a, .inl (δ.2 3, n, .inr (.inr (.inr (.inr (va_up f j (some v)))))))) lv st (pc + 1)) : G κ nL δ (Kn κ A0) Q cs sl ws lv (.ref v :: .int i :: .ref a :: st) pc := by
  subst hi
  refine fun H locs ls h hP hK => va_astq X.1 X.2.1 X.kk hP hD hK q0 3 qk ci he rfl hv hc (vp_in_nI hj h31) hd (fun H1 locs1 h1 _ h3 => ?_)
  rw [nI_clamp (by omega)] at h1
  exact nx H1 locs1 ls h h1 h3
end GF
