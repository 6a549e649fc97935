/-! What the class works out, as functions of its matrices. -/
section PU
/-- a loop that may stop: from i on, n times -/
def fo {σ : Type} (f : Nat → σ → Option σ) : Nat → Nat → σ → Option σ
  | _, 0, s => some s
  | i, n + 1, s => (f i s).bind (fo f (i + 1) n)
/-- a loop -/
def fl {σ : Type} (f : Nat → σ → σ) : Nat → Nat → σ → σ
  | _, 0, s => s
  | i, n + 1, s => fl f (i + 1) n (f i s)
theorem fo_n {σ : Type} {f : Nat → σ → Option σ} {i n : Nat} {s : σ} (h : f i s = none) : fo f i (n + 1) s = none := by simp [fo, h]
theorem fo_s {σ : Type} {f : Nat → σ → Option σ} {i n : Nat} {s s' : σ} (h : f i s = some s') : fo f i (n + 1) s = fo f (i + 1) n s' := by simp [fo, h]
def mHas (m : Mx) (p : Nat) : Bool := m.2.2.2 p
def mVal (m : Mx) (p : Nat) : Int64 := m.2.2.1 p
def mEnter (m : Mx) (p : Nat) (v : Int64) : Mx := (m.1, m.2.1, vp_updL m.2.2.1 p v, va_up m.2.2.2 p true)
def mRem (m : Mx) (p : Nat) : Mx := (m.1, m.2.1, m.2.2.1, va_up m.2.2.2 p false)
def mClear (m : Mx) (x y : Nat) : Mx := (x, y, m.2.2.1, fun p => if p < 64 then false else m.2.2.2 p)
def cnt (f : Nat → Bool) : Nat → Nat
  | 0 => 0
  | n + 1 => cnt f n + (if f n then 1 else 0)
theorem cnt_le (f : Nat → Bool) : ∀ n, cnt f n ≤ n
  | 0 => Nat.le_refl _
  | n + 1 => by
    have := cnt_le f n
    simp only [cnt]
    split <;> omega
def inR (v : Int64) : Bool := decide (-1000000000000 ≤ v) && decide (v ≤ 1000000000000)
def abL (v : Int64) : Int64 := if 0 < v then v else -v
def miL (x y : Int64) : Int64 := if y < x then y else x
def maL (x y : Int64) : Int64 := if y < x then x else y

def plS (x y : Int64) : Option Int64 := if inR (x + y) then some (x + y) else none

def tiS (x y : Int64) : Option Int64 := if ¬ x = 0 ∧ 1000000000000 / abL x < abL y then none else some (x * y)
end PU
section PV
def suS (k : Nat) (x y : Int64) : Option Int64 := if k = 0 then plS x y else if k = 1 then some (miL x y) else if k = 2 then some (if ¬ x = 0 ∨ ¬ y = 0 then 1 else 0) else some (maL x y)
def prS (k : Nat) (x y : Int64) : Option Int64 := if k = 0 then tiS x y else if k = 1 then plS x y else if k = 2 then some (if ¬ x = 0 ∧ ¬ y = 0 then 1 else 0) else some (miL x y)
/-- one value more at a place -/
def gaS (k : Nat) (S : Mx) (p : Nat) (v : Int64) : Option Mx := if mHas S p = true then (suS k (mVal S p) v).map (mEnter S p) else some (mEnter S p v)
def gpS (k : Nat) (L R : Mx) (i j : Nat) (t : Nat) (S : Mx) : Option Mx :=
  if mHas L (8 * i + t) = true ∧ mHas R (8 * t + j) = true then (prS k (mVal L (8 * i + t)) (mVal R (8 * t + j))).bind (gaS k S (8 * i + j)) else some S
def gAj (k : Nat) (F : Mx) (i j : Nat) (S : Mx) : Option Mx := if mHas F (8 * i + j) = true then gaS k S (8 * i + j) (mVal F (8 * i + j)) else some S
def gAi (k : Nat) (F : Mx) (i : Nat) (S : Mx) : Option Mx := fo (gAj k F i) 0 F.2.1 S
def gA (k : Nat) (F S : Mx) : Option Mx := fo (gAi k F) 0 F.1 S
def dzj (i j : Nat) (S : Mx) : Mx := if mHas S (8 * i + j) = true ∧ mVal S (8 * i + j) = 0 then mRem S (8 * i + j) else S
def dzi (c i : Nat) (S : Mx) : Mx := fl (dzj i) 0 c S
def dz (k : Nat) (S : Mx) : Mx := if k = 0 ∨ k = 2 then fl (dzi S.2.1) 0 S.1 S else S
def muj (k : Nat) (L R : Mx) (mk : Nat → Bool) (i j : Nat) (S : Mx) : Option Mx := if mk (8 * i + j) = true then fo (gpS k L R i j) 0 L.2.1 S else some S
def mui (k : Nat) (L R : Mx) (mk : Nat → Bool) (i : Nat) (S : Mx) : Option Mx := fo (muj k L R mk i) 0 R.2.1 S
def mu (k : Nat) (L R : Mx) (mk : Nat → Bool) (S : Mx) : Option Mx := fo (mui k L R mk) 0 L.1 S
def eaj (k : Nat) (L R : Mx) (i j : Nat) (S : Mx) : Option Mx := if mHas L (8 * i + j) = true ∧ mHas R (8 * i + j) = true then (prS k (mVal L (8 * i + j)) (mVal R (8 * i + j))).map (mEnter S (8 * i + j)) else some S
def eai (k : Nat) (L R : Mx) (i : Nat) (S : Mx) : Option Mx := fo (eaj k L R i) 0 L.2.1 S
def ea (k : Nat) (L R S : Mx) : Option Mx := fo (eai k L R) 0 L.1 S
def trj (F : Mx) (i j : Nat) (S : Mx) : Mx := if mHas F (8 * i + j) = true then mEnter S (8 * j + i) (mVal F (8 * i + j)) else S
def tri (F : Mx) (i : Nat) (S : Mx) : Mx := fl (trj F i) 0 F.2.1 S
def tr (F S : Mx) : Mx := fl (tri F) 0 F.1 S
def selB (h i j : Nat) (v x : Int64) : Prop := if h = 0 then v < x else if h = 1 then x < v else if h = 2 then i < j else if h = 3 then j < i else i = j
def slj (h : Nat) (x : Int64) (F : Mx) (i j : Nat) (S : Mx) : Mx := if mHas F (8 * i + j) = true ∧ (if h = 0 then mVal F (8 * i + j) < x else if h = 1 then x < mVal F (8 * i + j) else if h = 2 then i < j else if h = 3 then j < i else i = j) then mEnter S (8 * i + j) (mVal F (8 * i + j)) else S
end PV
