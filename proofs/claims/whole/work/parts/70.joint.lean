section CW
theorem CT.wide {l : Launch} {y : MethodName} {cw : Cond} {rm : Room} {δ : EX} {A B : Nat → Prop} {ws : va_W} {av : List Value} {P : OC → va_W → Prop} (h : CT l y cw rm δ A ws av P) (hAB : ∀ q, A q → B q) : CT l y cw rm δ B ws av P :=
  MetFree.mono h (fun a U hp => ⟨hp.1, ⟨hp.2.1.1, hp.2.1.2.1, hp.2.1.2.2.1.narrow hAB, hp.2.1.2.2.2.narrow hAB⟩, hp.2.2⟩) (fun _ _ _ _ _ h => h) (fun a st o t _ hq => by
    obtain ⟨r, w, L, k, n, h1, h2, h3, h4, h5, h6, h7⟩ := hq
    exact ⟨r, w, L, k, n, h1, h2, fun q h8 h9 => h3 q h8 (fun z => h9 (hAB q z)), h4, h5, fun q hq => (h6 q hq).imp (hAB _) id, h7⟩)
end CW
/-! Class and reference side by side: one theorem an operation. -/
section JO
/-- the form of an answer: none, an int, a long, a boolean -/
def JF (t : Nat) (u : Option Value) : Prop := if t = 0 then u = none else if t = 1 then ∃ z : Int32, u = some (.int z) else if t = 2 then ∃ z : Int64, u = some (.long z) else ∃ q : Bool, u = some (.int (b2 q))
def JX (l : Launch) (δ : EX) (ad : Nat → Nat) (M : DS) (b : Nat → Nat) (th wd hg : Nat) (s : SS) (w : WS) (yD : MethodName) (cwD : Cond) (rmD : Room) (avD : List Value) (yR : MethodName) (cwR : Cond) (rmR : Room) (avR : List Value) (cd : Nat → Nat) (t : Nat) : Prop :=
  ∃ PD PR : OC → va_W → Prop, CT l yD cwD rmD δ (Ar ad) (dl δ ad M) avD PD ∧ CT l yR cwR rmR δ (Br b) (rl δ b th wd hg s w) avR PR ∧ (∀ z w, ¬ PR (.inl z) w) ∧
    ∀ r wD, PD r wD → ∃ ad' M', wD = dl δ ad' M' ∧ Inj ad' ∧ Ar ad' = Ar ad ∧ ad' 0 = ad 0 ∧ (∀ z, r = .inl z → ¬ cd z = 0 ∧ cd z < 5) ∧ (∀ a, r = .inr a → JF t a) ∧
      ∀ u wR, PR (.inr u) wR → ∃ th' wd' hg' s' w', wR = rl δ b th' wd' hg' s' w' ∧ JF t u ∧ Rel M' s' ∧ ((∃ z, r = .inl z ∧ th' = cd z) ∨ (r = .inr u ∧ th' = 0))
variable {l : Launch} {δ : EX} {ad : Nat → Nat} {M : DS} {b : Nat → Nat} {th wd hg : Nat} {s : SS} {w : WS} {yD yR : MethodName} {cwD cwR : Cond} {rmD rmR : Room} {avD avR : List Value} {cd : Nat → Nat} {t : Nat}
theorem Rel_6 {S : Mx} (h : Rel M s) : Rel (va_up M 6 S) s := fun r hr => by
  have e : va_up M 6 S r = M r := by
    have : ¬ r = 6 := by omega
    simp [va_up, this]
  rw [e]
  exact h r hr
theorem JX_re (hinj : Inj ad) (hR : Rel M s) {z : Nat} {u : Option Value} {wd' hg' : Nat} {w' : WS} (hD : CTP l yD cwD rmD δ (dl δ ad M) avD (.inl z)) (hC : CTN l yR cwR rmR δ (Br b) (rl δ b th wd hg s w) avR u (rl δ b (cd z) wd' hg' s w')) (hcd : ¬ cd z = 0 ∧ cd z < 5) (hu : JF t u) : JX l δ ad M b th wd hg s w yD cwD rmD avD yR cwR rmR avR cd t :=
  ⟨_, _, hD.wide (fun _ h => h.elim), hC, fun _ _ h => (by cases h.1), fun r wD h => ⟨ad, M, h.2, hinj, rfl, rfl, fun z' e => (by rw [h.1] at e; cases e; exact hcd), fun a e => (by rw [h.1] at e; cases e), fun u' wR g => ⟨cd z, wd', hg', s, w', g.2, (by cases g.1; exact hu), hR, Or.inl ⟨z, h.1, rfl⟩⟩⟩⟩
theorem JX_ok {A : Nat → Prop} (hA : ∀ q, A q → Ar ad q) {a : Option Value} {ad' : Nat → Nat} {M' : DS} {wd' hg' : Nat} {s' : SS} {w' : WS} (hD : CTN l yD cwD rmD δ A (dl δ ad M) avD a (dl δ ad' M')) (h1 : Inj ad') (h2 : Ar ad' = Ar ad) (h3 : ad' 0 = ad 0) (hC : CTN l yR cwR rmR δ (Br b) (rl δ b th wd hg s w) avR a (rl δ b 0 wd' hg' s' w')) (hR : Rel M' s') (ha : JF t a) : JX l δ ad M b th wd hg s w yD cwD rmD avD yR cwR rmR avR cd t :=
  ⟨_, _, hD.wide hA, hC, fun _ _ h => (by cases h.1), fun r wD h => ⟨ad', M', h.2, h1, h2, h3, fun z' e => (by rw [h.1] at e; cases e), fun a' e => (by rw [h.1] at e; cases e; exact ha), fun u' wR g => ⟨0, wd', hg', s', w', g.2, (by cases g.1; exact ha), hR, Or.inr ⟨(by cases g.1; exact h.1), rfl⟩⟩⟩⟩
theorem KW_g (hinj : Inj ad) {to : Nat} (hto : to < 6) {S : Mx} : ∃ ad' M', KW δ ad to M S = dl δ ad' M' ∧ Inj ad' ∧ Ar ad' = Ar ad ∧ ad' 0 = ad 0 ∧ M' = fun k => va_up M 6 S (sw to k) :=
  ⟨_, _, rfl, Inj_sw hto hinj, Ar_sw hto, rfl, rfl⟩
theorem JX_keep (hinj : Inj ad) (hR : Rel M s) {to : Nat} (hto : to < 6) {S : Mx} {W : WS} {hg' wd' : Nat} (hb : 1 ≤ hg' ∧ hg' ≤ 8 ∧ 1 ≤ wd' ∧ wd' ≤ 8) (hS : MW S W hg' wd') (hD : CTN l yD cwD rmD δ (Ar ad) (dl δ ad M) avD (some (.int (nI (cnt S.2.2.2 64)))) (KW δ ad to M S)) (hC : CTN l yR cwR rmR δ (Br b) (rl δ b th wd hg s w) avR (some (.int (nI (en (fiH s W to (-1)).1 to)))) (rl δ b 0 wd' hg' (fiS s W wd' hg' to (-1)) W)) : JX l δ ad M b th wd hg s w yD cwD rmD avD yR cwR rmR avR cd 1 := by
  have hF := FW_of hS (x := -1) (by decide)
  rw [← FW_cnt (s := s) (to := to) hF] at hC
  exact JX_ok (fun _ h => h) hD (Inj_sw hto hinj) (Ar_sw hto) rfl hC (Rel_keep hR hF hb hto) ⟨_, rfl⟩
theorem JX_ps (hinj : Inj ad) (hR : Rel M s) {to k : Nat} (hto : to < 6) (hk : k < 4) {o : Option Mx} {W : WS} {hg' wd' : Nat} (hb : 1 ≤ hg' ∧ hg' ≤ 8 ∧ 1 ≤ wd' ∧ wd' ≤ 8) (hS : Sm o W hg' wd') (hD : CT l yD cwD rmD δ (Ar ad) (dl δ ad M) avD (PS δ ad M to (o.map (dz k)))) (hC : CT l yR cwR rmR δ (Br b) (rl δ b th wd hg s w) avR (FN δ b wd' hg' s W to (nI k))) (hcd : cd 4 = 3) : JX l δ ad M b th wd hg s w yD cwD rmD avD yR cwR rmR avR cd 1 := by
  refine ⟨_, _, hD, hC, fun z w h => ?_, fun r wD h => ?_⟩
  · rcases h with ⟨_, h, _⟩ | ⟨_, h, _⟩ <;> cases h
  · cases o with
    | none =>
      have hS : W.1 = true := hS
      rcases h with ⟨S, h, _⟩ | ⟨_, h1, S, h2⟩
      · cases h
      · refine ⟨ad, _, h2, hinj, rfl, rfl, fun z e => (by rw [h1] at e; cases e; rw [hcd]; exact ⟨by decide, by decide⟩), fun a e => (by rw [h1] at e; cases e), fun u wR g => ?_⟩
        rcases g with ⟨_, g1, g2⟩ | ⟨g1, _⟩
        · cases g1
          exact ⟨3, _, _, s, _, g2, ⟨_, rfl⟩, Rel_6 hR, Or.inl ⟨4, h1, hcd.symm⟩⟩
        · rw [hS] at g1
          cases g1
    | some S0 =>
      obtain ⟨hS1, hS2⟩ := hS
      rcases h with ⟨S, h, h1, h2⟩ | ⟨h, _⟩
      · cases h
        have hF := q_dz hS2 hk ⟨hb.2.1, hb.2.2.2⟩
        refine ⟨_, _, h2, Inj_sw hto hinj, Ar_sw hto, rfl, fun z e => (by rw [h1] at e; cases e), fun a e => (by rw [h1] at e; cases e; exact ⟨_, rfl⟩), fun u wR g => ?_⟩
        rcases g with ⟨g1, _⟩ | ⟨_, g1, g2⟩
        · rw [hS1] at g1
          cases g1
        · cases g1
          exact ⟨0, _, _, _, _, g2, ⟨_, rfl⟩, Rel_keep hR hF hb hto, Or.inr ⟨by rw [h1, FW_cnt (s := s) (to := to) hF], rfl⟩⟩
      · cases h
end JO
section JP
variable {l : Launch} {δ : EX} {ad : Nat → Nat} {M : DS} {b : Nat → Nat} {th wd hg : Nat} {s : SS} {w : WS}
theorem hw_ok (hR : Rel M s) {r : Nat} (hr : r < 6) : 1 ≤ s.1 r ∧ s.1 r ≤ 8 ∧ 1 ≤ s.2.1 r ∧ s.2.1 r ≤ 8 := (hR r hr).2.2.1
theorem x_shape (htr : l.stackTraces = false) (hinj : Inj ad) (h7 : In7 b) (hR : Rel M s) {x0 x1 x2 : Int32} : JX l δ ad M b th wd hg s w y_D_shape cw_D_shape (RM 2) [.ref (ad 0), .int x0, .int x1, .int x2] y_R_shape cw_R_shape (RM 1) [.ref (b 0), .int x0, .int x1, .int x2] (fun z => if z = 1 then 1 else 0) 0 := by
  by_cases c : bR x0 ∨ bD x1 ∨ bD x2
  · exact JX_re hinj hR (c_D_shape_x htr c) (c_R_shape_x htr h7 c) ⟨by decide, by decide⟩ rfl
  · obtain ⟨r, hr, rfl⟩ := (bR_or x0).resolve_left (fun q => c (Or.inl q))
    obtain ⟨m, h1, h2, rfl⟩ := (bD_or x1).resolve_left (fun q => c (Or.inr (Or.inl q)))
    obtain ⟨n, h3, h4, rfl⟩ := (bD_or x2).resolve_left (fun q => c (Or.inr (Or.inr q)))
    exact JX_ok (fun _ h => h) (c_D_shape htr hinj hr h1 h2 h3 h4) hinj rfl rfl (c_R_shape htr h7 hr h1 h2 h3 h4) (r_shape hR h1 h2 h3 h4) rfl
theorem bP_D (hR : Rel M s) {x i j : Int32} (h : bP s x i j) : bR x ∨ ∃ r, r < 6 ∧ x = nI r ∧ (i < 0 ∨ nI (M r).1 ≤ i ∨ j < 0 ∨ nI (M r).2.1 ≤ j) := by
  rcases h with h | ⟨r, hr, e, h⟩
  · exact Or.inl h
  · exact Or.inr ⟨r, hr, e, by rw [(hR.sh hr).1, (hR.sh hr).2.1]; exact h⟩
theorem x_put (htr : l.stackTraces = false) (hinj : Inj ad) (h7 : In7 b) (hR : Rel M s) {x0 x1 x2 : Int32} {v : Int64} : JX l δ ad M b th wd hg s w y_D_put cw_D_put (RM 2) [.ref (ad 0), .int x0, .int x1, .int x2, .long v] y_R_put cw_R_put (RM 2) [.ref (b 0), .int x0, .int x1, .int x2, .long v] (fun z => if z = 1 then 1 else 0) 0 := by
  by_cases c : bP s x0 x1 x2
  · have hC := c_R_put_x (δ := δ) (th := th) (wd := wd) (hg := hg) (w := w) htr h7 hR.h8 (v := v) (Or.inl c)
    rcases bP_D hR c with q | ⟨r, hr, rfl, q⟩
    · exact JX_re hinj hR (c_D_put_x1 htr q) hC ⟨by decide, by decide⟩ rfl
    · exact JX_re hinj hR (c_D_put_x2 htr hr q) hC ⟨by decide, by decide⟩ rfl
  · obtain ⟨r, i, j, hr, hi, hj, rfl, rfl, rfl⟩ := bP_no hR.h8 c
    have k := hR.sh hr
    have hi' : i < (M r).1 := by rw [k.1]; exact hi
    have hj' : j < (M r).2.1 := by rw [k.2.1]; exact hj
    cases hv : inR v with
    | false => exact JX_re hinj hR (c_D_put_x3 htr hr hi' hj' k.2.2.1 k.2.2.2 hv) (c_R_put_x htr h7 hR.h8 (Or.inr hv)) ⟨by decide, by decide⟩ rfl
    | true => exact JX_ok (fun _ h => h) (c_D_put htr hinj hr hi' hj' k.2.2.1 k.2.2.2 hv) hinj rfl rfl (c_R_put htr h7 hr hi hj (hR.h8 r hr).1 (hR.h8 r hr).2 hv) (r_put hR hr hi hj hv) rfl
theorem x_drop (htr : l.stackTraces = false) (hinj : Inj ad) (h7 : In7 b) (hR : Rel M s) {x0 x1 x2 : Int32} : JX l δ ad M b th wd hg s w y_D_drop cw_D_drop (RM 2) [.ref (ad 0), .int x0, .int x1, .int x2] y_R_drop cw_R_drop (RM 2) [.ref (b 0), .int x0, .int x1, .int x2] (fun z => if z = 1 then 1 else 0) 3 := by
  by_cases c : bP s x0 x1 x2
  · have hC := c_R_drop_x (δ := δ) (th := th) (wd := wd) (hg := hg) (w := w) htr h7 c
    rcases bP_D hR c with q | ⟨r, hr, rfl, q⟩
    · exact JX_re hinj hR (c_D_drop_x1 htr q) hC ⟨by decide, by decide⟩ ⟨false, rfl⟩
    · exact JX_re hinj hR (c_D_drop_x2 htr hr q) hC ⟨by decide, by decide⟩ ⟨false, rfl⟩
  · obtain ⟨r, i, j, hr, hi, hj, rfl, rfl, rfl⟩ := bP_no hR.h8 c
    have k := hR.sh hr
    have hi' : i < (M r).1 := by rw [k.1]; exact hi
    have hj' : j < (M r).2.1 := by rw [k.2.1]; exact hj
    have hC := c_R_drop (δ := δ) (th := th) (wd := wd) (hg := hg) (w := w) htr h7 hr hi hj (hR.h8 r hr).1 (hR.h8 r hr).2
    have hp := (hR.pl (p := 8 * i + j) hr (by have := hR.h8 r hr; omega)).1
    rw [← Nat.add_assoc] at hp
    rw [← hp] at hC
    exact JX_ok (fun _ h => h) (c_D_drop htr hinj hr hi' hj' k.2.2.1 k.2.2.2) hinj rfl rfl hC (r_drop hR hr hi hj) ⟨_, rfl⟩
theorem x_at (htr : l.stackTraces = false) (hinj : Inj ad) (h7 : In7 b) (hR : Rel M s) {x0 x1 x2 : Int32} : JX l δ ad M b th wd hg s w y_D_at cw_D_at (RM 2) [.ref (ad 0), .int x0, .int x1, .int x2] y_R_at cw_R_at (RM 2) [.ref (b 0), .int x0, .int x1, .int x2] (fun z => if z = 1 then 1 else if z = 3 then 2 else 0) 2 := by
  by_cases c : bP s x0 x1 x2
  · have hC := c_R_at_x (δ := δ) (th := th) (wd := wd) (hg := hg) (w := w) htr h7 c
    rcases bP_D hR c with q | ⟨r, hr, rfl, q⟩
    · exact JX_re hinj hR (c_D_at_x1 htr q) hC ⟨by decide, by decide⟩ ⟨_, rfl⟩
    · exact JX_re hinj hR (c_D_at_x2 htr hr q) hC ⟨by decide, by decide⟩ ⟨_, rfl⟩
  · obtain ⟨r, i, j, hr, hi, hj, rfl, rfl, rfl⟩ := bP_no hR.h8 c
    have k := hR.sh hr
    have hi' : i < (M r).1 := by rw [k.1]; exact hi
    have hj' : j < (M r).2.1 := by rw [k.2.1]; exact hj
    have hp := hR.pl (p := 8 * i + j) hr (by have := hR.h8 r hr; omega)
    rw [← Nat.add_assoc] at hp
    cases hh : mHas (M r) (8 * i + j) with
    | false => exact JX_re hinj hR (c_D_at_x3 htr hr hi' hj' k.2.2.1 k.2.2.2 hh) (c_R_at_x2 htr h7 hr hi hj (hR.h8 r hr).1 (hR.h8 r hr).2 (by rw [← hp.1]; exact hh)) ⟨by decide, by decide⟩ ⟨_, rfl⟩
    | true =>
      have hC := c_R_at (δ := δ) (th := th) (wd := wd) (hg := hg) (w := w) htr h7 hr hi hj (hR.h8 r hr).1 (hR.h8 r hr).2 (by rw [← hp.1]; exact hh)
      rw [← (hp.2 hh).1] at hC
      exact JX_ok (A := NoA) (fun _ h => h.elim) (c_D_at htr hr hi' hj' k.2.2.1 k.2.2.2 hh) hinj rfl rfl hC hR ⟨_, rfl⟩
theorem x_size (htr : l.stackTraces = false) (hinj : Inj ad) (h7 : In7 b) (hR : Rel M s) {x0 : Int32} : JX l δ ad M b th wd hg s w y_D_size cw_D_size (RM 2) [.ref (ad 0), .int x0] y_R_size cw_R_size (RM 1) [.ref (b 0), .int x0] (fun z => if z = 1 then 1 else 0) 1 := by
  rcases bR_or x0 with c | ⟨r, hr, rfl⟩
  · exact JX_re hinj hR (c_D_size_x htr c) (c_R_size_x htr h7 c) ⟨by decide, by decide⟩ ⟨_, rfl⟩
  · have hC := c_R_size (δ := δ) (th := th) (wd := wd) (hg := hg) (s := s) (w := w) htr h7 hr
    rw [← hR.en hr, ← (hR.sh hr).1, ← (hR.sh hr).2.1] at hC
    exact JX_ok (A := NoA) (fun _ h => h.elim) (c_D_size htr hr) hinj rfl rfl hC hR ⟨_, rfl⟩
theorem x_transpose (htr : l.stackTraces = false) (hinj : Inj ad) (h7 : In7 b) (hR : Rel M s) {x0 x1 : Int32} : JX l δ ad M b th wd hg s w y_D_transpose cw_D_transpose (RM 2) [.ref (ad 0), .int x0, .int x1] y_R_transpose cw_R_transpose (RM 2) [.ref (b 0), .int x0, .int x1] (fun z => if z = 1 then 1 else 0) 1 := by
  by_cases c : bR x0 ∨ bR x1
  · exact JX_re hinj hR (c_D_transpose_x htr c) (c_R_transpose_x htr h7 c) ⟨by decide, by decide⟩ ⟨_, rfl⟩
  · obtain ⟨to, hto, rfl⟩ := (bR_or x0).resolve_left (fun q => c (Or.inl q))
    obtain ⟨a, ha, rfl⟩ := (bR_or x1).resolve_left (fun q => c (Or.inr q))
    have k := hR.sh ha
    have o := hw_ok hR ha
    exact JX_keep hinj hR hto ⟨o.2.2.1, o.2.2.2, o.1, o.2.1⟩ (q_tr hR ha (M 6) w) (c_D_transpose htr hinj hto ha k.2.2.1 k.2.2.2) (c_R_transpose htr h7 hto ha)
theorem x_select (htr : l.stackTraces = false) (hinj : Inj ad) (h7 : In7 b) (hR : Rel M s) {x0 x1 x2 : Int32} {v : Int64} : JX l δ ad M b th wd hg s w y_D_select cw_D_select (RM 2) [.ref (ad 0), .int x0, .int x1, .int x2, .long v] y_R_select cw_R_select (RM 2) [.ref (b 0), .int x0, .int x1, .int x2, .long v] (fun z => if z = 1 then 1 else 0) 1 := by
  by_cases c : bR x0 ∨ bR x1 ∨ bH 4 x2
  · exact JX_re hinj hR (c_D_select_x htr c) (c_R_select_x htr h7 c) ⟨by decide, by decide⟩ ⟨_, rfl⟩
  · obtain ⟨to, hto, rfl⟩ := (bR_or x0).resolve_left (fun q => c (Or.inl q))
    obtain ⟨a, ha, rfl⟩ := (bR_or x1).resolve_left (fun q => c (Or.inr (Or.inl q)))
    obtain ⟨hw, hhw, rfl⟩ := (bH_or (n := 4) (by decide) x2).resolve_left (fun q => c (Or.inr (Or.inr q)))
    have k := hR.sh ha
    exact JX_keep hinj hR hto (hw_ok hR ha) (q_se hR ha (M 6) w) (c_D_select htr hinj hto ha k.2.2.1 k.2.2.2 hhw) (c_R_select htr h7 hto ha hhw)
theorem x_add (htr : l.stackTraces = false) (hinj : Inj ad) (h7 : In7 b) (hR : Rel M s) {x0 x1 x2 x3 : Int32} : JX l δ ad M b th wd hg s w y_D_add cw_D_add (RM 5) [.ref (ad 0), .int x0, .int x1, .int x2, .int x3] y_R_add cw_R_add (RM 2) [.ref (b 0), .int x0, .int x1, .int x2, .int x3] (fun z => if z = 1 then 1 else if z = 2 then 2 else if z = 4 then 3 else 0) 1 := by
  by_cases c : bR x0 ∨ bR x1 ∨ bR x2 ∨ bH 3 x3
  · exact JX_re hinj hR (c_D_add_x1 htr c) (c_R_add_x1 htr h7 c) ⟨by decide, by decide⟩ ⟨_, rfl⟩
  · obtain ⟨to, hto, rfl⟩ := (bR_or x0).resolve_left (fun q => c (Or.inl q))
    obtain ⟨a, ha, rfl⟩ := (bR_or x1).resolve_left (fun q => c (Or.inr (Or.inl q)))
    obtain ⟨d, hd, rfl⟩ := (bR_or x2).resolve_left (fun q => c (Or.inr (Or.inr (Or.inl q))))
    obtain ⟨k, hk, rfl⟩ := (bH_or (n := 3) (by decide) x3).resolve_left (fun q => c (Or.inr (Or.inr (Or.inr q))))
    have ka := hR.sh ha
    have kd := hR.sh hd
    by_cases e : s.1 a = s.1 d ∧ s.2.1 a = s.2.1 d
    · exact JX_ps hinj hR hto (by omega) (hw_ok hR ha) (q_ad hR ha hd (by omega) e (M 6) w) (c_D_add htr hinj hto ha hd (by omega) hR.hM (by rw [ka.1, ka.2.1, kd.1, kd.2.1]; exact e)) (c_R_add htr h7 hto ha hd (by omega) hR.h8 e) rfl
    · exact JX_re hinj hR (c_D_add_x2 htr hto ha hd (by omega) hR.hM (by rw [ka.1, ka.2.1, kd.1, kd.2.1]; exact e)) (c_R_add_x2 htr h7 hto ha hd (by omega) hR.h8 e) ⟨by decide, by decide⟩ ⟨_, rfl⟩
theorem x_each (htr : l.stackTraces = false) (hinj : Inj ad) (h7 : In7 b) (hR : Rel M s) {x0 x1 x2 x3 : Int32} : JX l δ ad M b th wd hg s w y_D_each cw_D_each (RM 5) [.ref (ad 0), .int x0, .int x1, .int x2, .int x3] y_R_each cw_R_each (RM 2) [.ref (b 0), .int x0, .int x1, .int x2, .int x3] (fun z => if z = 1 then 1 else if z = 2 then 2 else if z = 4 then 3 else 0) 1 := by
  by_cases c : bR x0 ∨ bR x1 ∨ bR x2 ∨ bH 3 x3
  · exact JX_re hinj hR (c_D_each_x1 htr c) (c_R_each_x1 htr h7 c) ⟨by decide, by decide⟩ ⟨_, rfl⟩
  · obtain ⟨to, hto, rfl⟩ := (bR_or x0).resolve_left (fun q => c (Or.inl q))
    obtain ⟨a, ha, rfl⟩ := (bR_or x1).resolve_left (fun q => c (Or.inr (Or.inl q)))
    obtain ⟨d, hd, rfl⟩ := (bR_or x2).resolve_left (fun q => c (Or.inr (Or.inr (Or.inl q))))
    obtain ⟨k, hk, rfl⟩ := (bH_or (n := 3) (by decide) x3).resolve_left (fun q => c (Or.inr (Or.inr (Or.inr q))))
    have ka := hR.sh ha
    have kd := hR.sh hd
    by_cases e : s.1 a = s.1 d ∧ s.2.1 a = s.2.1 d
    · exact JX_ps hinj hR hto (by omega) (hw_ok hR ha) (q_ea hR ha hd (by omega) e (M 6) w) (c_D_each htr hinj hto ha hd (by omega) hR.hM (by rw [ka.1, ka.2.1, kd.1, kd.2.1]; exact e)) (c_R_each htr h7 hto ha hd (by omega) hR.h8 e) rfl
    · exact JX_re hinj hR (c_D_each_x2 htr hto ha hd (by omega) hR.hM (by rw [ka.1, ka.2.1, kd.1, kd.2.1]; exact e)) (c_R_each_x2 htr h7 hto ha hd (by omega) hR.h8 e) ⟨by decide, by decide⟩ ⟨_, rfl⟩
theorem x_reduce (htr : l.stackTraces = false) (hinj : Inj ad) (h7 : In7 b) (hR : Rel M s) {x0 x1 : Int32} : JX l δ ad M b th wd hg s w y_D_reduce cw_D_reduce (RM 4) [.ref (ad 0), .int x0, .int x1] y_R_reduce cw_R_reduce (RM 2) [.ref (b 0), .int x0, .int x1] (fun z => if z = 1 then 1 else if z = 3 then 2 else if z = 4 then 3 else 0) 2 := by
  by_cases c : bR x0 ∨ bH 3 x1
  · exact JX_re hinj hR (c_D_reduce_x htr c) (c_R_reduce_x1 htr h7 c) ⟨by decide, by decide⟩ ⟨_, rfl⟩
  · obtain ⟨a, ha, rfl⟩ := (bR_or x0).resolve_left (fun q => c (Or.inl q))
    obtain ⟨k, hk, rfl⟩ := (bH_or (n := 3) (by decide) x1).resolve_left (fun q => c (Or.inr q))
    have ka := hR.sh ha
    have q := q_rd hR ha (show k < 4 by omega) (M 6)
    have hD := c_D_reduce (δ := δ) htr hinj ha ka.2.2.1 ka.2.2.2 (show k < 4 by omega)
    have hE := hR.en ha
    revert q hD
    cases ho : fo (rdi k (M a)) 0 (M a).1 (mClear (M 6) 1 1) with
    | none =>
      intro q hD
      have q : (rqZ s a k).2.2 = true := q
      by_cases hn : en s.2.2.1 a = 0
      · -- nothing there, yet too large: cannot be
        exfalso
        have e : ∀ p, p < 64 → s.2.2.1 (64 * a + p) = false := fun p hp => by
          cases hh : s.2.2.1 (64 * a + p) with
          | false => rfl
          | true =>
            rw [← hE] at hn
            exact absurd hn (cnt_pos 64 p hp (by rw [← hh]; exact (hR.pl ha hp).1))
        have e2 : rqZ s a k = (false, 0, false) := by
          unfold rqZ
          refine fl_fix 64 0 (fun p _ hp => ?_)
          unfold rqj
          rw [e p (by omega)]
          simp
        rw [e2] at q
        cases q
      · refine ⟨_, _, hD, c_R_reduce htr h7 ha (by omega) hn, fun z w h => ?_, fun r wD h => ?_⟩
        · rcases h with ⟨_, h, _⟩ | ⟨_, h, _⟩ <;> cases h
        · obtain ⟨S', h1, h2⟩ := h
          rcases h2 with ⟨_, h2⟩ | ⟨S, h2, _⟩
          · refine ⟨ad, _, h1, hinj, rfl, rfl, fun z e => (by rw [h2] at e; cases e; exact ⟨by decide, by decide⟩), fun a e => (by rw [h2] at e; cases e), fun u wR g => ?_⟩
            rcases g with ⟨_, g1, g2⟩ | ⟨g1, _⟩
            · cases g1
              exact ⟨3, _, _, s, _, g2, ⟨_, rfl⟩, Rel_6 hR, Or.inl ⟨4, h2, rfl⟩⟩
            · rw [q] at g1
              cases g1
          · cases h2
    | some S0 =>
      intro q hD
      obtain ⟨q1, q2, q3, q4, q5⟩ := q
      cases hz : (rqZ s a k).1 with
      | false =>
        have hn : en s.2.2.1 a = 0 := by
          rw [← hE]
          exact cnt_none 64 (q4 hz)
        refine ⟨_, _, hD, c_R_reduce_x2 htr h7 ha (by omega) hn, fun _ _ h => (by cases h.1), fun r wD h => ?_⟩
        obtain ⟨S', h1, h2⟩ := h
        rcases h2 with ⟨h2, _⟩ | ⟨S, h2, h3⟩
        · cases h2
        · cases h2
          rcases h3 with ⟨_, h3⟩ | ⟨h3, _⟩
          · exact ⟨ad, _, h1, hinj, rfl, rfl, fun z e => (by rw [h3] at e; cases e; exact ⟨by decide, by decide⟩), fun a e => (by rw [h3] at e; cases e), fun u wR g => ⟨2, _, _, s, _, g.2, (by cases g.1; exact ⟨_, rfl⟩), Rel_6 hR, Or.inl ⟨3, h3, rfl⟩⟩⟩
          · have h3 : mHas S0 0 = true := h3
            rw [q2, hz] at h3
            cases h3
      | true =>
        obtain ⟨p, hp, hp2⟩ := q5 hz
        have hn : ¬ en s.2.2.1 a = 0 := by
          rw [← hE]
          exact cnt_pos 64 p hp hp2
        refine ⟨_, _, hD, c_R_reduce htr h7 ha (by omega) hn, fun z w h => ?_, fun r wD h => ?_⟩
        · rcases h with ⟨_, h, _⟩ | ⟨_, h, _⟩ <;> cases h
        · obtain ⟨S', h1, h2⟩ := h
          rcases h2 with ⟨h2, _⟩ | ⟨S, h2, h3⟩
          · cases h2
          · cases h2
            rcases h3 with ⟨h3, _⟩ | ⟨_, h3⟩
            · have h3 : mHas S0 0 = false := h3
              rw [q2, hz] at h3
              cases h3
            · refine ⟨ad, _, h1, hinj, rfl, rfl, fun z e => (by rw [h3] at e; cases e), fun a e => (by rw [h3] at e; cases e; exact ⟨_, rfl⟩), fun u wR g => ?_⟩
              rcases g with ⟨g1, _⟩ | ⟨_, g1, g2⟩
              · rw [q1] at g1
                cases g1
              · cases g1
                refine ⟨0, _, _, s, _, g2, ⟨_, rfl⟩, Rel_6 hR, Or.inr ⟨?_, rfl⟩⟩
                rw [h3]
                have e : mVal S0 (8 * 0 + 0) = (rqZ s a k).2.1 := q3 hz
                rw [e]
theorem x_levels (htr : l.stackTraces = false) (hinj : Inj ad) (h7 : In7 b) (hR : Rel M s) {x0 x1 x2 : Int32} : JX l δ ad M b th wd hg s w y_D_levels cw_D_levels (RM 3) [.ref (ad 0), .int x0, .int x1, .int x2] y_R_levels cw_R_levels (RM 2) [.ref (b 0), .int x0, .int x1, .int x2] (fun z => if z = 1 then 1 else if z = 2 then 2 else if z = 3 then 3 else 0) 1 := by
  by_cases c : bR x0 ∨ bR x1
  · exact JX_re hinj hR (c_D_levels_x1 htr c) (c_R_levels_x1 htr h7 c) ⟨by decide, by decide⟩ ⟨_, rfl⟩
  · obtain ⟨to, hto, rfl⟩ := (bR_or x0).resolve_left (fun q => c (Or.inl q))
    obtain ⟨a, ha, rfl⟩ := (bR_or x1).resolve_left (fun q => c (Or.inr q))
    have k := hR.sh ha
    have o := hw_ok hR ha
    by_cases e : s.1 a = s.2.1 a
    · have e' : (M a).1 = (M a).2.1 := by rw [k.1, k.2.1]; exact e
      rcases pk_ix x2 (n := s.1 a) (by omega) with q | q | ⟨v, hv, rfl⟩
      · exact JX_re hinj hR (c_D_levels_x3 htr hto ha hR.hM e' (Or.inl q)) (c_R_levels_x3 htr h7 hto ha hR.h8 e (Or.inl q)) ⟨by decide, by decide⟩ ⟨_, rfl⟩
      · exact JX_re hinj hR (c_D_levels_x3 htr hto ha hR.hM e' (Or.inr (by rw [k.1]; exact q))) (c_R_levels_x3 htr h7 hto ha hR.h8 e (Or.inr q)) ⟨by decide, by decide⟩ ⟨_, rfl⟩
      · exact JX_keep hinj hR hto ⟨by omega, by omega, o.2.2.1, o.2.2.2⟩ (q_lv hR ha e hv (M 6) w) (c_D_levels htr hinj hto ha hR.hM e' (by rw [k.1]; exact hv)) (c_R_levels htr h7 hto ha hR.h8 e hv)
    · exact JX_re hinj hR (c_D_levels_x2 htr hto ha hR.hM (by rw [k.1, k.2.1]; exact e)) (c_R_levels_x2 htr h7 hto ha hR.h8 e) ⟨by decide, by decide⟩ ⟨_, rfl⟩
theorem x_components (htr : l.stackTraces = false) (hinj : Inj ad) (h7 : In7 b) (hR : Rel M s) {x0 x1 : Int32} : JX l δ ad M b th wd hg s w y_D_components cw_D_components (RM 2) [.ref (ad 0), .int x0, .int x1] y_R_components cw_R_components (RM 2) [.ref (b 0), .int x0, .int x1] (fun z => if z = 1 then 1 else if z = 2 then 2 else 0) 1 := by
  by_cases c : bR x0 ∨ bR x1
  · exact JX_re hinj hR (c_D_components_x1 htr c) (c_R_components_x1 htr h7 c) ⟨by decide, by decide⟩ ⟨_, rfl⟩
  · obtain ⟨to, hto, rfl⟩ := (bR_or x0).resolve_left (fun q => c (Or.inl q))
    obtain ⟨a, ha, rfl⟩ := (bR_or x1).resolve_left (fun q => c (Or.inr q))
    have k := hR.sh ha
    have o := hw_ok hR ha
    by_cases e : s.1 a = s.2.1 a
    · have e' : (M a).1 = (M a).2.1 := by rw [k.1, k.2.1]; exact e
      exact JX_keep hinj hR hto ⟨by omega, by omega, o.2.2.1, o.2.2.2⟩ (q_co hR ha e (M 6) w) (c_D_components htr hinj hto ha hR.hM e') (c_R_components htr h7 hto ha hR.h8 e)
    · exact JX_re hinj hR (c_D_components_x2 htr hto ha hR.hM (by rw [k.1, k.2.1]; exact e)) (c_R_components_x2 htr h7 hto ha hR.h8 e) ⟨by decide, by decide⟩ ⟨_, rfl⟩
theorem x_triangles (htr : l.stackTraces = false) (hinj : Inj ad) (h7 : In7 b) (hR : Rel M s) {x0 : Int32} : JX l δ ad M b th wd hg s w y_D_triangles cw_D_triangles (RM 2) [.ref (ad 0), .int x0] y_R_triangles cw_R_triangles (RM 1) [.ref (b 0), .int x0] (fun z => if z = 1 then 1 else if z = 2 then 2 else 0) 1 := by
  rcases bR_or x0 with c | ⟨a, ha, rfl⟩
  · exact JX_re hinj hR (c_D_triangles_x1 htr c) (c_R_triangles_x1 htr h7 c) ⟨by decide, by decide⟩ ⟨_, rfl⟩
  · have k := hR.sh ha
    by_cases e : s.1 a = s.2.1 a
    · have e' : (M a).1 = (M a).2.1 := by rw [k.1, k.2.1]; exact e
      have hC := c_R_triangles (δ := δ) (th := th) (wd := wd) (hg := hg) (w := w) htr h7 ha hR.h8 e
      rw [← q_tg hR ha e] at hC
      exact JX_ok (A := NoA) (fun _ h => h.elim) (c_D_triangles htr ha hR.hM e') hinj rfl rfl hC hR ⟨_, rfl⟩
    · exact JX_re hinj hR (c_D_triangles_x2 htr ha hR.hM (by rw [k.1, k.2.1]; exact e)) (c_R_triangles_x2 htr h7 ha hR.h8 e) ⟨by decide, by decide⟩ ⟨_, rfl⟩
theorem x_paths (htr : l.stackTraces = false) (hinj : Inj ad) (h7 : In7 b) (hR : Rel M s) {x0 x1 : Int32} : JX l δ ad M b th wd hg s w y_D_paths cw_D_paths (RM 5) [.ref (ad 0), .int x0, .int x1] y_R_paths cw_R_paths (RM 2) [.ref (b 0), .int x0, .int x1] (fun z => if z = 1 then 1 else if z = 2 then 2 else if z = 4 then 3 else if z = 3 then 4 else 0) 1 := by
  by_cases c : bR x0 ∨ bR x1
  · exact JX_re hinj hR (c_D_paths_x1 htr c) (c_R_paths_x1 htr h7 c) ⟨by decide, by decide⟩ ⟨_, rfl⟩
  · obtain ⟨to, hto, rfl⟩ := (bR_or x0).resolve_left (fun q => c (Or.inl q))
    obtain ⟨a, ha, rfl⟩ := (bR_or x1).resolve_left (fun q => c (Or.inr q))
    have k := hR.sh ha
    have o := hw_ok hR ha
    by_cases e : s.1 a = s.2.1 a
    · have e' : (M a).1 = (M a).2.1 := by rw [k.1, k.2.1]; exact e
      have hC := c_R_paths (δ := δ) (th := th) (wd := wd) (hg := hg) (w := w) htr h7 hto ha hR.h8 e
      have noT : ∀ z w', ¬ PAP δ b s (bgS w) to a (.inl z) w' := fun z w' h => by
        rcases h with ⟨_, h, _⟩ | ⟨_, _, h, _⟩ | ⟨_, _, h, _⟩ <;> cases h
      by_cases hl : leL (M a)
      · have q := q_pa hR ha e hl (M 6) w
        have hD := c_D_paths (δ := δ) htr hinj hto ha hR.hM e' hl
        refine ⟨_, _, hD, hC, noT, fun r wD h => ?_⟩
        obtain ⟨qf, q⟩ := q
        revert q h
        cases ho : paR (M a) (mClear (M 6) (M a).1 (M a).2.1) with
        | inl z =>
          rintro h ⟨rfl, q2⟩
          rcases h with ⟨S, h, _⟩ | ⟨z, S, h, h1, h2⟩
          · cases h
          · cases h
            refine ⟨ad, _, h2, hinj, rfl, rfl, fun z e => (by rw [h1] at e; cases e; exact ⟨by decide, by decide⟩), fun a e => (by rw [h1] at e; cases e), fun u wR g => ?_⟩
            rcases g with ⟨g, _⟩ | ⟨_, _, g1, g2⟩ | ⟨_, g, _⟩
            · rw [qf] at g; cases g
            · cases g1
              exact ⟨4, _, _, s, _, g2, ⟨_, rfl⟩, Rel_6 hR, Or.inl ⟨3, h1, rfl⟩⟩
            · rw [q2] at g; cases g
        | inr S0 =>
          rintro h ⟨q2, q3⟩
          rcases h with ⟨S, h, h1, h2⟩ | ⟨z, S, h, _⟩
          · cases h
            have hF := FW_of q3 (x := -1) (by decide)
            refine ⟨_, _, h2, Inj_sw hto hinj, Ar_sw hto, rfl, fun z e => (by rw [h1] at e; cases e), fun a e => (by rw [h1] at e; cases e; exact ⟨_, rfl⟩), fun u wR g => ?_⟩
            rcases g with ⟨g, _⟩ | ⟨_, g, _⟩ | ⟨_, _, g1, g2⟩
            · rw [qf] at g; cases g
            · rw [q2] at g; cases g
            · cases g1
              exact ⟨0, _, _, _, _, g2, ⟨_, rfl⟩, Rel_keep hR hF ⟨o.1, o.2.1, o.1, o.2.1⟩ hto, Or.inr ⟨by rw [h1, FW_cnt (s := s) (to := to) hF], rfl⟩⟩
          · cases h
      · have q := q_pf hR ha hl w
        refine ⟨_, _, (c_D_paths_x4 htr hto ha hR.hM e' hl).wide (fun _ h => h.elim), hC, noT, fun r wD h => ?_⟩
        refine ⟨ad, M, h.2, hinj, rfl, rfl, fun z e => (by rw [h.1] at e; cases e; exact ⟨by decide, by decide⟩), fun a e => (by rw [h.1] at e; cases e), fun u wR g => ?_⟩
        rcases g with ⟨_, g1, g2⟩ | ⟨g, _⟩ | ⟨g, _⟩
        · cases g1
          exact ⟨3, _, _, s, _, g2, ⟨_, rfl⟩, hR, Or.inl ⟨4, h.1, rfl⟩⟩
        · rw [q] at g; cases g
        · rw [q] at g; cases g
    · exact JX_re hinj hR (c_D_paths_x2 htr hto ha hR.hM (by rw [k.1, k.2.1]; exact e)) (c_R_paths_x2 htr h7 hto ha hR.h8 e) ⟨by decide, by decide⟩ ⟨_, rfl⟩
theorem x_multiply (htr : l.stackTraces = false) (hinj : Inj ad) (h7 : In7 b) (hR : Rel M s) {x0 x1 x2 x3 x4 x5 : Int32} : JX l δ ad M b th wd hg s w y_D_multiply cw_D_multiply (RM 5) [.ref (ad 0), .int x0, .int x1, .int x2, .int x3, .int x4, .int x5] y_R_multiply cw_R_multiply (RM 3) [.ref (b 0), .int x0, .int x1, .int x2, .int x3, .int x4, .int x5] (fun z => if z = 1 then 1 else if z = 2 then 2 else if z = 4 then 3 else 0) 1 := by
  by_cases c : bR x0 ∨ bR x1 ∨ bR x2 ∨ bH 3 x3 ∨ (¬ x4 = -1 ∧ bR x4) ∨ bH 3 x5
  · exact JX_re hinj hR (c_D_multiply_x1 htr c) (c_R_multiply_x1 htr h7 c) ⟨by decide, by decide⟩ ⟨_, rfl⟩
  · obtain ⟨to, hto, rfl⟩ := (bR_or x0).resolve_left (fun q => c (Or.inl q))
    obtain ⟨a, ha, rfl⟩ := (bR_or x1).resolve_left (fun q => c (Or.inr (Or.inl q)))
    obtain ⟨d, hd, rfl⟩ := (bR_or x2).resolve_left (fun q => c (Or.inr (Or.inr (Or.inl q))))
    obtain ⟨k, hk, rfl⟩ := (bH_or (n := 3) (by decide) x3).resolve_left (fun q => c (Or.inr (Or.inr (Or.inr (Or.inl q)))))
    obtain ⟨hw, hhw, rfl⟩ := (bH_or (n := 3) (by decide) x5).resolve_left (fun q => c (Or.inr (Or.inr (Or.inr (Or.inr (Or.inr q))))))
    have hk4 : k < 4 := by omega
    have hmv : x4 = -1 ∨ ∃ m, m < 6 ∧ x4 = nI m := by
      by_cases e : x4 = -1
      · exact Or.inl e
      · exact Or.inr ((bR_or x4).resolve_left (fun q => c (Or.inr (Or.inr (Or.inr (Or.inr (Or.inl ⟨e, q⟩)))))))
    have ka := hR.sh ha
    have kd := hR.sh hd
    have kt := hR.sh hto
    by_cases ft : fiT s to a d hw x4
    · obtain ⟨f1, f2, f3⟩ := ft
      have g1 : (M a).2.1 = (M d).1 := by rw [ka.2.1, kd.1]; exact f1
      have g2 : x4 = -1 ∨ ∃ m, m < 6 ∧ x4 = nI m ∧ ((M m).1 = (M a).1 ∧ (M m).2.1 = (M d).2.1) := by
        rcases f2 with f | ⟨m, hm, e, e1, e2⟩
        · exact Or.inl f
        · exact Or.inr ⟨m, hm, e, by rw [(hR.sh hm).1, ka.1]; exact e1, by rw [(hR.sh hm).2.1, kd.2.1]; exact e2⟩
      have g3 : ¬ 2 ≤ hw ∨ ((M to).1 = (M a).1 ∧ (M to).2.1 = (M d).2.1) := by
        rw [kt.1, kt.2.1, ka.1, kd.2.1]
        exact f3
      have hmk : ∃ mk : Nat → Bool, MkOk M x4 (decide (hw % 2 = 1)) mk ∧ MkR s x4 hw mk := by
        rcases f2 with f | ⟨m, hm, e, _⟩
        · exact ⟨fun _ => true, Or.inl ⟨f, fun _ => rfl⟩, Or.inl ⟨f, fun _ => rfl⟩⟩
        · refine ⟨fun p => !(mHas (M m) p == decide (hw % 2 = 1)), Or.inr ⟨m, hm, e, fun _ => rfl⟩, Or.inr ⟨m, hm, e, fun i j hi hj => ?_⟩⟩
          have p := (hR.pl (p := 8 * i + j) hm (by omega)).1
          rw [← Nat.add_assoc] at p
          show (!(mHas (M m) (8 * i + j) == decide (hw % 2 = 1))) = _
          rw [p]
          rcases Nat.mod_two_eq_zero_or_one hw with q | q
          · rw [q]
            cases s.2.2.1 (64 * m + 8 * i + j) <;> rfl
          · rw [q]
            cases s.2.2.1 (64 * m + 8 * i + j) <;> rfl
      obtain ⟨mk, m1, m2⟩ := hmk
      have oa := hw_ok hR ha
      have od := hw_ok hR hd
      exact JX_ps hinj hR hto hk4 ⟨oa.1, oa.2.1, od.2.2.1, od.2.2.2⟩ (q_mu hR hto ha hd hk4 f3 (M 6) w) (c_D_multiply htr hinj hto ha hd hk4 hR.hM hhw g1 g2 g3 m1) (c_R_multiply htr h7 hto ha hd hk4 hhw hR.h8 f1 f2 f3 m2) rfl
    · have hC := c_R_multiply_x2 (δ := δ) (th := th) (wd := wd) (hg := hg) (w := w) htr h7 hto ha hd hk4 hhw hR.h8 hmv ft
      by_cases f1 : s.2.1 a = s.1 d
      · have g1 : (M a).2.1 = (M d).1 := by rw [ka.2.1, kd.1]; exact f1
        by_cases f2 : x4 = -1 ∨ ∃ m, m < 6 ∧ x4 = nI m ∧ s.1 m = s.1 a ∧ s.2.1 m = s.2.1 d
        · have g2 : x4 = -1 ∨ ∃ m, m < 6 ∧ x4 = nI m ∧ ((M m).1 = (M a).1 ∧ (M m).2.1 = (M d).2.1) := by
            rcases f2 with f | ⟨m, hm, e, e1, e2⟩
            · exact Or.inl f
            · exact Or.inr ⟨m, hm, e, by rw [(hR.sh hm).1, ka.1]; exact e1, by rw [(hR.sh hm).2.1, kd.2.1]; exact e2⟩
          by_cases f3 : ¬ 2 ≤ hw ∨ (s.1 to = s.1 a ∧ s.2.1 to = s.2.1 d)
          · exact absurd ⟨f1, f2, f3⟩ ft
          · have f4 : 2 ≤ hw := Classical.byContradiction (fun q => f3 (Or.inl q))
            exact JX_re hinj hR (c_D_multiply_x4 htr hto ha hd hk4 hR.hM hhw g1 g2 f4 (by rw [kt.1, kt.2.1, ka.1, kd.2.1]; exact fun q => f3 (Or.inr q))) hC ⟨by decide, by decide⟩ ⟨_, rfl⟩
        · rcases hmv with e | ⟨m, hm, rfl⟩
          · exact absurd (Or.inl e) f2
          · exact JX_re hinj hR (c_D_multiply_x3 htr hto ha hd hk4 hR.hM hhw g1 hm (by rw [(hR.sh hm).1, (hR.sh hm).2.1, ka.1, kd.2.1]; exact fun q => f2 (Or.inr ⟨m, hm, rfl, q⟩))) hC ⟨by decide, by decide⟩ ⟨_, rfl⟩
      · exact JX_re hinj hR (c_D_multiply_x2 htr hto ha hd hk4 hR.hM hhw hmv (by rw [ka.2.1, kd.1]; exact f1)) hC ⟨by decide, by decide⟩ ⟨_, rfl⟩
end JP
section JW
/-- how the wrapper turns an answer into a long -/
def cvT (t : Nat) : Option Value → Option Int64 := if t = 0 then cvV else if t = 1 then cvI else if t = 2 then cvL else cvZ
def JG (t : Nat) (u : Option Value) (c : Prop) (g : Int64) : Prop := if t = 0 then u = none else if t = 1 then ∃ z : Int32, u = some (.int z) ∧ (c → g = z.toInt64) else if t = 2 then ∃ z : Int64, u = some (.long z) ∧ (c → g = z) else ∃ q : Bool, u = some (.int (b2 q)) ∧ (c → g = if q = true then 1 else 0)
/-- wrapper and reference side by side -/
def JJ (l : Launch) (δ : EX) (ad : Nat → Nat) (M : DS) (o : Nat) (f : Nat → Int64) (b : Nat → Nat) (th wd hg : Nat) (s : SS) (w : WS) (yL : MethodName) (cwL : Cond) (rmL : Room) (avL : List Value) (yR : MethodName) (cwR : Cond) (rmR : Room) (avR : List Value) (t : Nat) : Prop :=
  ∃ (PL : Option Value → va_W → Prop) (PR : OC → va_W → Prop), CI Ncs l yL cwL rmL δ (Bo ad o) (dl δ ad M ++ [(o, oA δ f)]) avL 1 6 PL ∧ CT l yR cwR rmR δ (Br b) (rl δ b th wd hg s w) avR PR ∧ (∀ z w, ¬ PR (.inl z) w) ∧
    ∀ v wL, PL v wL → ∃ k ad' M' f', v = some (.int (nI k)) ∧ k < 5 ∧ wL = dl δ ad' M' ++ [(o, oA δ f')] ∧ Inj ad' ∧ Ar ad' = Ar ad ∧ ad' 0 = ad 0 ∧
      ∀ u wR, PR (.inr u) wR → ∃ wd' hg' s' w', wR = rl δ b k wd' hg' s' w' ∧ JG t u (k = 0) (f' 0) ∧ Rel M' s'
variable {l : Launch} {δ : EX} {ad : Nat → Nat} {M : DS} {o : Nat} {f : Nat → Int64} {b : Nat → Nat} {th wd hg : Nat} {s : SS} {w : WS} {yD yR yL : MethodName} {cwD cwR cwL : Cond} {rmD rmR rmL : Room} {avD avR avL : List Value} {cd : Nat → Nat} {t : Nat}
theorem JG_of {u : Option Value} {c : Prop} {g : Int64} (h : JF t u) (h2 : c → ∀ f, g = (match cvT t u with | some x => vp_updL f 0 x | none => f) 0 ∨ t = 0) : JG t u c g := by
  unfold JF at h
  unfold JG
  by_cases h0 : t = 0
  · rw [if_pos h0] at h ⊢
    exact h
  · rw [if_neg h0] at h ⊢
    by_cases h1 : t = 1
    · subst h1
      rw [if_pos rfl] at h ⊢
      obtain ⟨z, rfl⟩ := h
      refine ⟨z, rfl, fun hc => ?_⟩
      have := (h2 hc (fun _ => 0)).resolve_right (by omega)
      rw [this]
      rfl
    · rw [if_neg h1] at h ⊢
      by_cases h3 : t = 2
      · subst h3
        rw [if_pos rfl] at h ⊢
        obtain ⟨z, rfl⟩ := h
        refine ⟨z, rfl, fun hc => ?_⟩
        have := (h2 hc (fun _ => 0)).resolve_right (by omega)
        rw [this]
        rfl
      · rw [if_neg h3] at h ⊢
        obtain ⟨q, rfl⟩ := h
        refine ⟨q, rfl, fun hc => ?_⟩
        have := (h2 hc (fun _ => 0)).resolve_right h0
        rw [this]
        have e : cvT t = cvZ := by
          unfold cvT
          rw [if_neg h0, if_neg h1, if_neg h3]
        rw [e]
        cases q <;> rfl
theorem JJ_of (hX : JX l δ ad M b th wd hg s w yD cwD rmD avD yR cwR rmR avR cd t) (hL : ∀ PD : OC → va_W → Prop, CT l yD cwD rmD δ (Ar ad) (dl δ ad M) avD PD → (∀ r w, PD r w → va_D (Ar ad) w) → (∀ z w, PD (.inl z) w → ¬ cd z = 0) → (∀ u w, PD (.inr u) w → JF t u) → CI Ncs l yL cwL rmL δ (Bo ad o) (dl δ ad M ++ [(o, oA δ f)]) avL 1 6 (WO δ o f cd (cvT t) PD)) : JJ l δ ad M o f b th wd hg s w yL cwL rmL avL yR cwR rmR avR t := by
  obtain ⟨PD, PR, hD, hC, hn, hm⟩ := hX
  refine ⟨_, PR, hL PD hD (fun r w h => ?_) (fun z w h => ?_) (fun u w h => ?_), hC, hn, fun v wL h => ?_⟩
  · obtain ⟨ad', M', h1, h2, h3, _⟩ := hm r w h
    rw [h1]
    exact dl_D h2 (fun q hq => by rw [← h3]; exact hq)
  · obtain ⟨ad', M', _, _, _, _, h5, _⟩ := hm _ w h
    exact (h5 z rfl).1
  · obtain ⟨ad', M', _, _, _, _, _, h6, _⟩ := hm _ w h
    exact h6 u rfl
  · rcases h with ⟨a, w1, h1, rfl, rfl⟩ | ⟨z, w1, h1, rfl, rfl⟩
    · obtain ⟨ad', M', rfl, g2, g3, g4, _, g6, g7⟩ := hm _ w1 h1
      refine ⟨0, ad', M', _, rfl, by omega, rfl, g2, g3, g4, fun u wR hu => ?_⟩
      obtain ⟨th', wd', hg', s', w', rfl, k2, k3, k4⟩ := g7 u wR hu
      rcases k4 with ⟨z, k4, _⟩ | ⟨k4, rfl⟩
      · cases k4
      · cases k4
        refine ⟨wd', hg', s', w', rfl, JG_of k2 (fun _ f' => ?_), k3⟩
        by_cases h0 : t = 0
        · exact Or.inr h0
        · left
          have hs : ∃ x, cvT t a = some x := by
            unfold JF at k2
            unfold cvT
            rw [if_neg h0] at k2 ⊢
            by_cases h1 : t = 1
            · rw [if_pos h1] at k2 ⊢
              obtain ⟨z, rfl⟩ := k2
              exact ⟨_, rfl⟩
            · rw [if_neg h1] at k2 ⊢
              by_cases h3 : t = 2
              · rw [if_pos h3] at k2 ⊢
                obtain ⟨z, rfl⟩ := k2
                exact ⟨_, rfl⟩
              · rw [if_neg h3] at k2 ⊢
                obtain ⟨q, rfl⟩ := k2
                exact ⟨_, rfl⟩
          obtain ⟨x, hx⟩ := hs
          simp only [hx]
          rfl
    · obtain ⟨ad', M', rfl, g2, g3, g4, g5, _, g7⟩ := hm _ w1 h1
      have g5' := g5 z rfl
      refine ⟨cd z, ad', M', f, rfl, g5'.2, rfl, g2, g3, g4, fun u wR hu => ?_⟩
      obtain ⟨th', wd', hg', s', w', rfl, k2, k3, k4⟩ := g7 u wR hu
      rcases k4 with ⟨z', k4, rfl⟩ | ⟨k4, _⟩
      · cases k4
        exact ⟨wd', hg', s', w', rfl, JG_of k2 (fun hc => absurd hc g5'.1), k3⟩
      · cases k4
end JW
section JL
variable {l : Launch} {δ : EX} {ad : Nat → Nat} {M : DS} {o : Nat} {f : Nat → Int64} {b : Nat → Nat} {th wd hg : Nat} {s : SS} {w : WS}
theorem j_shape (htr : l.stackTraces = false) (hinj : Inj ad) (h7 : In7 b) (hR : Rel M s) (ho : ¬ Ar ad o) {x0 : Int32} {x1 : Int32} {x2 : Int32} : JJ l δ ad M o f b th wd hg s w y_L_shape cw_L_shape (RM 3) [.ref (ad 0), .int x0, .int x1, .int x2] y_R_shape cw_R_shape (RM 1) [.ref (b 0), .int x0, .int x1, .int x2] 0 := by
  refine JJ_of (x_shape htr hinj h7 hR) (fun PD hC hPD hk hv => c_L_shape htr ho hinj hC hPD (fun z w hp => ?_) hv)
  have h := hk z w hp
  by_cases e0 : z = 1
  · exact e0
  exact absurd (by simp only [if_neg e0]) h
theorem j_put (htr : l.stackTraces = false) (hinj : Inj ad) (h7 : In7 b) (hR : Rel M s) (ho : ¬ Ar ad o) {x0 : Int32} {x1 : Int32} {x2 : Int32} {x3 : Int64} : JJ l δ ad M o f b th wd hg s w y_L_put cw_L_put (RM 3) [.ref (ad 0), .int x0, .int x1, .int x2, .long x3] y_R_put cw_R_put (RM 2) [.ref (b 0), .int x0, .int x1, .int x2, .long x3] 0 := by
  refine JJ_of (x_put htr hinj h7 hR) (fun PD hC hPD hk hv => c_L_put htr ho hinj hC hPD (fun z w hp => ?_) hv)
  have h := hk z w hp
  by_cases e0 : z = 1
  · exact e0
  exact absurd (by simp only [if_neg e0]) h
theorem j_drop (htr : l.stackTraces = false) (hinj : Inj ad) (h7 : In7 b) (hR : Rel M s) (ho : ¬ Ar ad o) {x0 : Int32} {x1 : Int32} {x2 : Int32} : JJ l δ ad M o f b th wd hg s w y_L_drop cw_L_drop (RM 3) [.ref (ad 0), .int x0, .int x1, .int x2, .ref o] y_R_drop cw_R_drop (RM 2) [.ref (b 0), .int x0, .int x1, .int x2] 3 := by
  refine JJ_of (x_drop htr hinj h7 hR) (fun PD hC hPD hk hv => c_L_drop htr ho hinj hC hPD (fun z w hp => ?_) hv)
  have h := hk z w hp
  by_cases e0 : z = 1
  · exact e0
  exact absurd (by simp only [if_neg e0]) h
theorem j_at (htr : l.stackTraces = false) (hinj : Inj ad) (h7 : In7 b) (hR : Rel M s) (ho : ¬ Ar ad o) {x0 : Int32} {x1 : Int32} {x2 : Int32} : JJ l δ ad M o f b th wd hg s w y_L_at cw_L_at (RM 3) [.ref (ad 0), .int x0, .int x1, .int x2, .ref o] y_R_at cw_R_at (RM 2) [.ref (b 0), .int x0, .int x1, .int x2] 2 := by
  refine JJ_of (x_at htr hinj h7 hR) (fun PD hC hPD hk hv => c_L_at htr ho hinj hC hPD (fun z w hp => ?_) hv)
  have h := hk z w hp
  by_cases e0 : z = 1
  · exact Or.inl e0
  by_cases e1 : z = 3
  · exact Or.inr e1
  exact absurd (by simp only [if_neg e0, if_neg e1]) h
theorem j_size (htr : l.stackTraces = false) (hinj : Inj ad) (h7 : In7 b) (hR : Rel M s) (ho : ¬ Ar ad o) {x0 : Int32} : JJ l δ ad M o f b th wd hg s w y_L_size cw_L_size (RM 3) [.ref (ad 0), .int x0, .ref o] y_R_size cw_R_size (RM 1) [.ref (b 0), .int x0] 1 := by
  refine JJ_of (x_size htr hinj h7 hR) (fun PD hC hPD hk hv => c_L_size htr ho hinj hC hPD (fun z w hp => ?_) hv)
  have h := hk z w hp
  by_cases e0 : z = 1
  · exact e0
  exact absurd (by simp only [if_neg e0]) h
theorem j_multiply (htr : l.stackTraces = false) (hinj : Inj ad) (h7 : In7 b) (hR : Rel M s) (ho : ¬ Ar ad o) {x0 : Int32} {x1 : Int32} {x2 : Int32} {x3 : Int32} {x4 : Int32} {x5 : Int32} : JJ l δ ad M o f b th wd hg s w y_L_multiply cw_L_multiply (RM 6) [.ref (ad 0), .int x0, .int x1, .int x2, .int x3, .int x4, .int x5, .ref o] y_R_multiply cw_R_multiply (RM 3) [.ref (b 0), .int x0, .int x1, .int x2, .int x3, .int x4, .int x5] 1 := by
  refine JJ_of (x_multiply htr hinj h7 hR) (fun PD hC hPD hk hv => c_L_multiply htr ho hinj hC hPD (fun z w hp => ?_) hv)
  have h := hk z w hp
  by_cases e0 : z = 1
  · exact Or.inl e0
  by_cases e1 : z = 2
  · exact Or.inr (Or.inl e1)
  by_cases e2 : z = 4
  · exact Or.inr (Or.inr e2)
  exact absurd (by simp only [if_neg e0, if_neg e1, if_neg e2]) h
theorem j_add (htr : l.stackTraces = false) (hinj : Inj ad) (h7 : In7 b) (hR : Rel M s) (ho : ¬ Ar ad o) {x0 : Int32} {x1 : Int32} {x2 : Int32} {x3 : Int32} : JJ l δ ad M o f b th wd hg s w y_L_add cw_L_add (RM 6) [.ref (ad 0), .int x0, .int x1, .int x2, .int x3, .ref o] y_R_add cw_R_add (RM 2) [.ref (b 0), .int x0, .int x1, .int x2, .int x3] 1 := by
  refine JJ_of (x_add htr hinj h7 hR) (fun PD hC hPD hk hv => c_L_add htr ho hinj hC hPD (fun z w hp => ?_) hv)
  have h := hk z w hp
  by_cases e0 : z = 1
  · exact Or.inl e0
  by_cases e1 : z = 2
  · exact Or.inr (Or.inl e1)
  by_cases e2 : z = 4
  · exact Or.inr (Or.inr e2)
  exact absurd (by simp only [if_neg e0, if_neg e1, if_neg e2]) h
theorem j_each (htr : l.stackTraces = false) (hinj : Inj ad) (h7 : In7 b) (hR : Rel M s) (ho : ¬ Ar ad o) {x0 : Int32} {x1 : Int32} {x2 : Int32} {x3 : Int32} : JJ l δ ad M o f b th wd hg s w y_L_each cw_L_each (RM 6) [.ref (ad 0), .int x0, .int x1, .int x2, .int x3, .ref o] y_R_each cw_R_each (RM 2) [.ref (b 0), .int x0, .int x1, .int x2, .int x3] 1 := by
  refine JJ_of (x_each htr hinj h7 hR) (fun PD hC hPD hk hv => c_L_each htr ho hinj hC hPD (fun z w hp => ?_) hv)
  have h := hk z w hp
  by_cases e0 : z = 1
  · exact Or.inl e0
  by_cases e1 : z = 2
  · exact Or.inr (Or.inl e1)
  by_cases e2 : z = 4
  · exact Or.inr (Or.inr e2)
  exact absurd (by simp only [if_neg e0, if_neg e1, if_neg e2]) h
theorem j_transpose (htr : l.stackTraces = false) (hinj : Inj ad) (h7 : In7 b) (hR : Rel M s) (ho : ¬ Ar ad o) {x0 : Int32} {x1 : Int32} : JJ l δ ad M o f b th wd hg s w y_L_transpose cw_L_transpose (RM 3) [.ref (ad 0), .int x0, .int x1, .ref o] y_R_transpose cw_R_transpose (RM 2) [.ref (b 0), .int x0, .int x1] 1 := by
  refine JJ_of (x_transpose htr hinj h7 hR) (fun PD hC hPD hk hv => c_L_transpose htr ho hinj hC hPD (fun z w hp => ?_) hv)
  have h := hk z w hp
  by_cases e0 : z = 1
  · exact e0
  exact absurd (by simp only [if_neg e0]) h
theorem j_select (htr : l.stackTraces = false) (hinj : Inj ad) (h7 : In7 b) (hR : Rel M s) (ho : ¬ Ar ad o) {x0 : Int32} {x1 : Int32} {x2 : Int32} {x3 : Int64} : JJ l δ ad M o f b th wd hg s w y_L_select cw_L_select (RM 3) [.ref (ad 0), .int x0, .int x1, .int x2, .long x3, .ref o] y_R_select cw_R_select (RM 2) [.ref (b 0), .int x0, .int x1, .int x2, .long x3] 1 := by
  refine JJ_of (x_select htr hinj h7 hR) (fun PD hC hPD hk hv => c_L_select htr ho hinj hC hPD (fun z w hp => ?_) hv)
  have h := hk z w hp
  by_cases e0 : z = 1
  · exact e0
  exact absurd (by simp only [if_neg e0]) h
theorem j_reduce (htr : l.stackTraces = false) (hinj : Inj ad) (h7 : In7 b) (hR : Rel M s) (ho : ¬ Ar ad o) {x0 : Int32} {x1 : Int32} : JJ l δ ad M o f b th wd hg s w y_L_reduce cw_L_reduce (RM 5) [.ref (ad 0), .int x0, .int x1, .ref o] y_R_reduce cw_R_reduce (RM 2) [.ref (b 0), .int x0, .int x1] 2 := by
  refine JJ_of (x_reduce htr hinj h7 hR) (fun PD hC hPD hk hv => c_L_reduce htr ho hinj hC hPD (fun z w hp => ?_) hv)
  have h := hk z w hp
  by_cases e0 : z = 1
  · exact Or.inl e0
  by_cases e1 : z = 3
  · exact Or.inr (Or.inl e1)
  by_cases e2 : z = 4
  · exact Or.inr (Or.inr e2)
  exact absurd (by simp only [if_neg e0, if_neg e1, if_neg e2]) h
theorem j_levels (htr : l.stackTraces = false) (hinj : Inj ad) (h7 : In7 b) (hR : Rel M s) (ho : ¬ Ar ad o) {x0 : Int32} {x1 : Int32} {x2 : Int32} : JJ l δ ad M o f b th wd hg s w y_L_levels cw_L_levels (RM 4) [.ref (ad 0), .int x0, .int x1, .int x2, .ref o] y_R_levels cw_R_levels (RM 2) [.ref (b 0), .int x0, .int x1, .int x2] 1 := by
  refine JJ_of (x_levels htr hinj h7 hR) (fun PD hC hPD hk hv => c_L_levels htr ho hinj hC hPD (fun z w hp => ?_) hv)
  have h := hk z w hp
  by_cases e0 : z = 1
  · exact Or.inl e0
  by_cases e1 : z = 2
  · exact Or.inr (Or.inl e1)
  by_cases e2 : z = 3
  · exact Or.inr (Or.inr e2)
  exact absurd (by simp only [if_neg e0, if_neg e1, if_neg e2]) h
theorem j_paths (htr : l.stackTraces = false) (hinj : Inj ad) (h7 : In7 b) (hR : Rel M s) (ho : ¬ Ar ad o) {x0 : Int32} {x1 : Int32} : JJ l δ ad M o f b th wd hg s w y_L_paths cw_L_paths (RM 6) [.ref (ad 0), .int x0, .int x1, .ref o] y_R_paths cw_R_paths (RM 2) [.ref (b 0), .int x0, .int x1] 1 := by
  refine JJ_of (x_paths htr hinj h7 hR) (fun PD hC hPD hk hv => c_L_paths htr ho hinj hC hPD (fun z w hp => ?_) hv)
  have h := hk z w hp
  by_cases e0 : z = 1
  · exact Or.inl e0
  by_cases e1 : z = 2
  · exact Or.inr (Or.inl e1)
  by_cases e2 : z = 4
  · exact Or.inr (Or.inr (Or.inl e2))
  by_cases e3 : z = 3
  · exact Or.inr (Or.inr (Or.inr e3))
  exact absurd (by simp only [if_neg e0, if_neg e1, if_neg e2, if_neg e3]) h
theorem j_triangles (htr : l.stackTraces = false) (hinj : Inj ad) (h7 : In7 b) (hR : Rel M s) (ho : ¬ Ar ad o) {x0 : Int32} : JJ l δ ad M o f b th wd hg s w y_L_triangles cw_L_triangles (RM 3) [.ref (ad 0), .int x0, .ref o] y_R_triangles cw_R_triangles (RM 1) [.ref (b 0), .int x0] 1 := by
  refine JJ_of (x_triangles htr hinj h7 hR) (fun PD hC hPD hk hv => c_L_triangles htr ho hinj hC hPD (fun z w hp => ?_) hv)
  have h := hk z w hp
  by_cases e0 : z = 1
  · exact Or.inl e0
  by_cases e1 : z = 2
  · exact Or.inr e1
  exact absurd (by simp only [if_neg e0, if_neg e1]) h
theorem j_components (htr : l.stackTraces = false) (hinj : Inj ad) (h7 : In7 b) (hR : Rel M s) (ho : ¬ Ar ad o) {x0 : Int32} {x1 : Int32} : JJ l δ ad M o f b th wd hg s w y_L_components cw_L_components (RM 3) [.ref (ad 0), .int x0, .int x1, .ref o] y_R_components cw_R_components (RM 2) [.ref (b 0), .int x0, .int x1] 1 := by
  refine JJ_of (x_components htr hinj h7 hR) (fun PD hC hPD hk hv => c_L_components htr ho hinj hC hPD (fun z w hp => ?_) hv)
  have h := hk z w hp
  by_cases e0 : z = 1
  · exact Or.inl e0
  by_cases e1 : z = 2
  · exact Or.inr e1
  exact absurd (by simp only [if_neg e0, if_neg e1]) h
end JL
