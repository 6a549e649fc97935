/-! The law: its world, its calls. -/
section LA
/-- desk, the answer's place, reference -/
def LW (δ : EX) (ad : Nat → Nat) (M : DS) (o : Nat) (f : Nat → Int64) (b : Nat → Nat) (th wd hg : Nat) (s : SS) (w : WS) : va_W := (dl δ ad M ++ [(o, oA δ f)]) ++ rl δ b th wd hg s w
/-- where things lie -/
def LG (A : Nat → Prop) (o : Nat) (ad b : Nat → Nat) : Prop := In7 b ∧ ¬ Ar ad o ∧ ¬ Br b o ∧ (∀ q, Ar ad q → ¬ Br b q) ∧ (∀ q, Ar ad q → A q) ∧ (∀ q, Br b q → A q) ∧ A o
theorem LG.swap {A : Nat → Prop} {o : Nat} {ad ad' b : Nat → Nat} (h : LG A o ad b) (e : Ar ad' = Ar ad) : LG A o ad' b := by
  unfold LG at h ⊢
  rw [e]
  exact h
variable {κ : KX} {own : String} {cc : ByteArray} {nL : Nat} {rt : Option FieldType} {δ : EX} {rm : Room} {A0 : Nat → Prop} {hh : List (Nat × Nat × Nat × Nat)} {Q : State → Prop} {cs sl : Nat} {ws : va_W} {lv : List (Nat × Value)} {st stk : List Value} {pc : Nat} {sc n o : Nat} {F : Nat → Int32} {ad b : Nat → Nat} {M : DS} {f : Nat → Int64} {th wd hg : Nat} {s : SS} {w : WS}
/-- the script: never written -/
def SC (κ : KX) (A0 : Nat → Prop) (sc n : Nat) (F : Nat → Int32) : Prop := va_X sc n F (xs κ) (xs κ).heap ∧ sc < (xs κ).heap.size ∧ ¬ A0 sc
theorem SC.no (h : SC κ A0 sc n F) : ¬ (A0 sc ∨ (xs κ).heap.size ≤ sc) := fun z => z.elim h.2.2 (fun z => absurd h.2.1 (by omega))
theorem g_sld (X : XO κ own cc nL rt δ rm A0 hh) (hX : SC κ A0 sc n F) {j : Nat} (hj : j < n) (h31 : n < 2 ^ 31) (hd : decode cc pc = .ok (.iaload, 1)) (nx : G κ nL δ (Kn κ A0) Q cs sl ws lv (.int (F j) :: st) (pc + 1)) : G κ nL δ (Kn κ A0) Q cs sl ws lv (.int (nI j) :: .ref sc :: st) pc :=
  fun H locs ls h hP hK => va_sld X.1 X.2.1 hX.1 hX.2.1 hX.no hK (vp_in_nI hj h31) hd (by rw [nI_clamp (by omega)]; exact nx H locs ls h hP hK)
theorem g_slen (X : XO κ own cc nL rt δ rm A0 hh) (hX : SC κ A0 sc n F) (hd : decode cc pc = .ok (.arraylength, 1)) (nx : G κ nL δ (Kn κ A0) Q cs sl ws lv (.int (nI n) :: st) (pc + 1)) : G κ nL δ (Kn κ A0) Q cs sl ws lv (.ref sc :: st) pc :=
  fun H locs ls h hP hK => va_slen X.1 X.2.1 hX.1 hX.2.1 hX.no hK hd (nx H locs ls h hP hK)
theorem dl_len : (dl δ ad M).length = 23 := by simp [dl, wl]
theorem LW_o : (LW δ ad M o f b th wd hg s w)[23]? = some (o, .inl (δ.2 1, 1, .inr (.inl f))) := by
  unfold LW
  rw [List.getElem?_append_left (by rw [List.length_append, dl_len]; exact Nat.lt_succ_self 23), List.getElem?_append_right (by rw [dl_len]; exact Nat.le_refl 23), dl_len]
  rfl
theorem rl_at (hi : In7 b) {k : Nat} {q : Nat × va_E} (h : (rl δ b th wd hg s w)[k]? = some q) : Br b q.1 := by
  rcases (Br_D hi (n := q.1 + 1)).2 k q h with z | z
  · exact z
  · omega
theorem dl_at (hi : Inj ad) {k : Nat} {q : Nat × va_E} (h : (dl δ ad M)[k]? = some q) : Ar ad q.1 := (dl_D (A := Ar ad) hi (fun _ h => h)).2 k q h
theorem Spl_L {A : Nat → Prop} (g : LG A o ad b) : Spl δ (LW δ ad M o f b th wd hg s w) (dl δ ad M ++ [(o, oA δ f)]) (rl δ b th wd hg s w) (fun x => x ++ rl δ b th wd hg s w) (Bo ad o) := by
  obtain ⟨g1, g2, g3, g7, g8, g9, g10⟩ := g
  refine Spl.l (fun k q hk z => ?_)
  have hb := rl_at g1 hk
  rcases z with z | z
  · exact g7 _ z hb
  · exact g3 (z ▸ hb)
theorem Spl_R (hinj : Inj ad) {A : Nat → Prop} (g : LG A o ad b) {B0 : Nat → Prop} (hB : ∀ q, B0 q → Br b q) : Spl δ (LW δ ad M o f b th wd hg s w) (rl δ b th wd hg s w) (dl δ ad M ++ [(o, oA δ f)]) (fun x => (dl δ ad M ++ [(o, oA δ f)]) ++ x) B0 := by
  obtain ⟨g1, g2, g3, g7, g8, g9, g10⟩ := g
  refine Spl.r (fun k q hk z => ?_)
  have z := hB _ z
  by_cases hl : k < (dl δ ad M).length
  · rw [List.getElem?_append_left hl] at hk
    exact g7 _ (dl_at hinj hk) z
  · rw [List.getElem?_append_right (by omega)] at hk
    have hz : k - (dl δ ad M).length < 1 := (List.getElem?_eq_some_iff.mp hk).1
    have h0 : k - (dl δ ad M).length = 0 := by omega
    rw [h0] at hk
    obtain rfl := Option.some.inj hk
    exact g3 z
/-- room for a call -/
theorem rk {d nL2 c k : Nat} (h1 : 13 ≤ rm.frames) (h2 : 400 ≤ rm.locals) (h3 : c + 1 ≤ rm.cells) (h4 : k + 6 ≤ rm.slots) (hd : d ≤ 6) (hn : nL2 ≤ 20) : RmOk rm (RM d) nL2 c k [] :=
  ⟨by show 6 + d + 1 ≤ _; omega, by show 0 + (nL2 + 11) + (90 + 40 * d) ≤ _; omega, h3, h4⟩
variable {yL yR : MethodName} {avL avR : List Value} {rmL rmR : Room} {t : Nat} {cL cR : ByteArray} {nLL nLR : Nat} {rtL rtR : Option FieldType} {hhL : List (Nat × Nat × Nat × Nat)} {idx : Nat}
/-- both calls: the wrapper's now; what is left of them -/
def LK (l : Launch) (δ : EX) (b : Nat → Nat) (th wd hg : Nat) (s : SS) (w : WS) (M' : DS) (f' : Nat → Int64) (k : Nat) (yR : MethodName) (cwR : Cond) (rmR : Room) (avR : List Value) (t : Nat) : Prop :=
  ∃ PR : OC → va_W → Prop, CT l yR cwR rmR δ (Br b) (rl δ b th wd hg s w) avR PR ∧ (∀ z w, ¬ PR (.inl z) w) ∧ ∀ u wR, PR (.inr u) wR → ∃ wd' hg' s' w', wR = rl δ b k wd' hg' s' w' ∧ JG t u (k = 0) (f' 0) ∧ Rel M' s'
theorem l_call {cwR : Cond} (X : XO κ R_L code nL rt δ rm A0 hh) (hE : Ncs (xs κ)) (hinj : Inj ad) (g : LG (fun q => A0 q ∨ (xs κ).heap.size ≤ q) o ad b) (sw : SW R_L idx yL (.codeWith yL cL nLL rtL hhL) avL.length) (hJ : JJ (xl κ) δ ad M o f b th wd hg s w yL (.codeWith yL cL nLL rtL hhL) rmL avL yR cwR rmR avR t) (hd : decode code pc = .ok (.invokestatic idx, 3)) (hst : stk = avL.reverse) (hrm : RmOk rm rmL nLL cs sl [])
    (nx : ∀ k ad' M' f', k < 5 → Inj ad' → Ar ad' = Ar ad → ad' 0 = ad 0 → LK (xl κ) δ b th wd hg s w M' f' k yR cwR rmR avR t → G κ nL δ (Kn κ A0) Q (cs + 1) (sl + 6) (LW δ ad' M' o f' b th wd hg s w) lv [.int (nI k)] (pc + 3)) : G κ nL δ (Kn κ A0) Q cs sl (LW δ ad M o f b th wd hg s w) lv stk pc := by
  obtain ⟨PL, PR, hC, hR, hn, hm⟩ := hJ
  refine g_callL (rest := []) (fun U hU => hE.moved hU.alike) X (inv_S X (Or.inr rfl) sw.2.2.2.1 sw.1 sw.2.1 sw.2.2.1 sw.2.2.2.2.1 sw.2.2.2.2.2 hd (by rw [hst, List.append_nil])) hC (fun q hq => ?_) (Spl_L g) (Or.inr rfl) sw.2.2.2.1 sw.2.2.1 hd hrm (fun v x hp => ?_)
  · rcases hq with hq | rfl
    · exact g.2.2.2.2.1 q hq
    · exact g.2.2.2.2.2.2
  · obtain ⟨k, ad', M', f', rfl, hk, rfl, i1, i2, i3, hm2⟩ := hm v x hp
    exact nx k ad' M' f' hk i1 i2 i3 ⟨PR, hR, hn, hm2⟩
theorem r_call {k : Nat} {M' : DS} {f' : Nat → Int64} (X : XO κ R_L code nL rt δ rm A0 hh) (hinj : Inj ad) (g : LG (fun q => A0 q ∨ (xs κ).heap.size ≤ q) o ad b) (vw : VW R_L idx yR (.code yR cR nLR rtR) avR.length) (hcl : yR.cls = R_R) (hK : LK (xl κ) δ b th wd hg s w M' f' k yR (.code yR cR nLR rtR) rmR (.ref (b 0) :: avR) t) (hd : decode code pc = .ok (.invokevirtual idx, 3)) (hst : stk = avR.reverse ++ [.ref (b 0)]) (hrm : RmOk rm rmR nLR cs sl [])
    (nx : ∀ u wd' hg' s' w', JG t u (k = 0) (f' 0) → Rel M' s' → G κ nL δ (Kn κ A0) Q cs sl (LW δ ad M o f b k wd' hg' s' w') lv u.toList (pc + 3)) : G κ nL δ (Kn κ A0) Q cs sl (LW δ ad M o f b th wd hg s w) lv stk pc := by
  obtain ⟨PR, hR, hn, hm⟩ := hK
  refine g_callT (rest := []) (hh2 := []) X (inv_V X (hh2 := []) (q0 := 0) (ci := 2) (Or.inl rfl) vw.2.2.2.1 vw.1 vw.2.1.1 vw.2.1.2 vw.2.2.2.2.1 vw.2.2.2.2.2 hd hst rfl (by rw [hcl]; rfl)) hR (fun q hq => g.2.2.2.2.2.1 q hq) (Spl_R hinj g (fun _ h => h)) (Or.inl rfl) vw.2.2.2.1 vw.2.2.1 hd hrm hn (fun v x hp => ?_)
  obtain ⟨wd', hg', s', w', rfl, h1, h2⟩ := hm v x hp
  rw [List.append_nil]
  exact nx v wd' hg' s' w' h1 h2
theorem t_call (X : XO κ R_L code nL rt δ rm A0 hh) (htr : (xl κ).stackTraces = false) (hinj : Inj ad) (g : LG (fun q => A0 q ∨ (xs κ).heap.size ≤ q) o ad b) (hd : decode code pc = .ok (.invokevirtual 83, 3)) (hrm : RmOk rm (RM 0) 1 cs sl [])
    (nx : G κ nL δ (Kn κ A0) Q cs sl (LW δ ad M o f b th wd hg s w) lv [.int (nI th)] (pc + 3)) : G κ nL δ (Kn κ A0) Q cs sl (LW δ ad M o f b th wd hg s w) lv [.ref (b 0)] pc := by
  refine g_callT (rest := []) (hh2 := []) X (inv_V X (hh2 := []) (av := []) (q0 := 0) (ci := 2) (Or.inl rfl) v_L_83.2.2.2.1 v_L_83.1 v_L_83.2.1.1 v_L_83.2.1.2 v_L_83.2.2.2.2.1 v_L_83.2.2.2.2.2 hd rfl rfl rfl) (c_R_thrown htr) (fun q hq => hq.elim) (Spl_R hinj g (fun _ h => h.elim)) (Or.inl rfl) v_L_83.2.2.2.1 v_L_83.2.2.1 hd hrm (fun z x h => by cases h.1) (fun v x hp => ?_)
  obtain ⟨h1, rfl⟩ := hp
  cases h1
  exact nx
end LA
