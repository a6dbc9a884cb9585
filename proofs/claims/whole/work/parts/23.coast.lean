abbrev tFrom (t : TrV) : Int32 := t.2.2.1
abbrev tTo (t : TrV) : Int32 := t.2.2.2.1
abbrev tFirst (t : TrV) : Int32 := t.2.2.2.2.1
abbrev tTill (t : TrV) : Int32 := t.2.2.2.2.2.1
abbrev tPrice (t : TrV) : Int32 := t.2.2.2.2.2.2.1
abbrev tCosts (t : TrV) : Int32 := t.2.2.2.2.2.2.2
abbrev coN (C : CoV) : Nat := C.1
abbrev coMoon (C : CoV) : Int32 := C.2.1
abbrev coHt (C : CoV) : Nat → Int32 := C.2.2.1
abbrev coWo (C : CoV) : Nat → Int32 := C.2.2.2.1
abbrev coTn (C : CoV) : Nat → Int32 := C.2.2.2.2.1
abbrev coWn (C : CoV) : Nat → Int32 := C.2.2.2.2.2.1
abbrev coTc (C : CoV) : Nat := C.2.2.2.2.2.2.1
abbrev coDc (C : CoV) : Nat := C.2.2.2.2.2.2.2.1
abbrev coTw (C : CoV) : Nat → Int32 := C.2.2.2.2.2.2.2.2.1
abbrev coTd (C : CoV) : Nat → Int32 := C.2.2.2.2.2.2.2.2.2.1
abbrev coTv (C : CoV) : Nat → Int32 := C.2.2.2.2.2.2.2.2.2.2
def imin (x y : Int32) : Int32 := if y < x then y else x
def imax (x y : Int32) : Int32 := if x < y then y else x
def trRuns (t : TrV) (y : Int32) : Bool := decide (tFirst t ≤ y) && decide (y < tTill t)
def trBits (t : TrV) : Int32 := ((2 : Int32) <<< (tTo t &&& 31)) - ((1 : Int32) <<< (tFrom t &&& 31))
def kHolds (k : Nat) (sp : Bool) : Int32 := match k with
  | 0 => nI 8
  | 1 => nI 11
  | 2 => if sp = true then nI 15 else nI 8
  | 3 => nI 8
  | 4 => nI 11
  | _ => nI 8 / nI 2
def kCosts (k : Nat) (p : Int32) : Int32 := match k with
  | 0 => p
  | 1 => p
  | 2 => p
  | 3 => p + 1
  | 4 => 2 * p
  | _ => (p + 1 + 1) / 2
def kDueA (c y : Int32) : Int32 := if y &&& 1 = 1 then 2 * c else 0
def kDue (k : Nat) (c y : Int32) : Int32 := match k with
  | 0 => c
  | 1 => c
  | 2 => c
  | 3 => kDueA c y
  | 4 => c
  | _ => kDueA c y
def coSpring (C : CoV) (y : Int32) : Bool := decide (0 < coMoon C) && decide (y - y / coMoon C * coMoon C = 0)
def coMore (C : CoV) (y : Int32) : Int32 := if coSpring C y = true then 2 else 0
def coStorm (C : CoV) (y : Int32) : Int32 := coWn C (y &&& 7).toNatClampNeg + coMore C y
def coGuards (C : CoV) (tr : Nat → TrV) (Y : YrV) (st : Int32) : Nat → Int32
  | 0 => 0
  | i + 1 => if yrBr Y i = false ∧ trRuns (tr i) Y.1 = true ∧ st ≤ kHolds (tr i).1 (coSpring C Y.1) then coGuards C tr Y st i ||| trBits (tr i) else coGuards C tr Y st i
def firstN (p : Nat → Bool) : Nat → Nat
  | 0 => 0
  | n + 1 => if firstN p n < n then firstN p n else if p n = true then n else n + 1
theorem firstN_eq {p : Nat → Bool} : ∀ {n x : Nat}, (∀ j, j < x → p j = false) → (x < n ∧ p x = true ∨ x = n) → firstN p n = x
  | 0, x, h, h2 => by
    rcases h2 with h2 | h2
    · omega
    · rw [h2]; rfl
  | n + 1, x, h, h2 => by
    rw [firstN]
    by_cases hx : x < n
    · have hp : p x = true := by
        rcases h2 with h2 | h2
        · exact h2.2
        · omega
      rw [firstN_eq h (Or.inl ⟨hx, hp⟩), if_pos hx]
    · have e : firstN p n = n := firstN_eq (fun j hj => h j (by omega)) (Or.inr rfl)
      rw [e, if_neg (Nat.lt_irrefl n)]
      rcases h2 with h2 | h2
      · have : x = n := by omega
        subst this
        rw [if_pos h2.2]
      · subst h2
        rw [if_neg (by rw [h n (by omega)]; exact Bool.false_ne_true)]
def preB : Nat → Int32
  | 0 => 0
  | x + 1 => preB x ||| bit x
def coTop (C : CoV) (dk : Nat → Int32) (bare : Int32) (x : Nat) : Int32 := coHt C x + (if hasB bare x = true then 0 else dk x)
def coStop (C : CoV) (dk : Nat → Int32) (st g bare : Int32) (x : Nat) : Bool := decide (st ≤ coTop C dk bare x) || hasB g x
def coWater (C : CoV) (dk : Nat → Int32) (st g bare : Int32) : Int32 := preB (firstN (coStop C dk st g bare) (coN C))
def coPay (tr : Nat → TrV) (Y : YrV) : Nat → YrV
  | 0 => Y
  | i + 1 =>
    if yrBr (coPay tr Y i) i = false ∧ trRuns (tr i) (coPay tr Y i).1 = true then
      (if kDue (tr i).1 (tCosts (tr i)) (coPay tr Y i).1 ≤ (coPay tr Y i).2.1 then
        ((coPay tr Y i).1, (coPay tr Y i).2.1 - kDue (tr i).1 (tCosts (tr i)) (coPay tr Y i).1, (coPay tr Y i).2.2)
      else ((coPay tr Y i).1, (coPay tr Y i).2.1, (coPay tr Y i).2.2.1 ||| bit i, (coPay tr Y i).2.2.2))
    else coPay tr Y i
def coRun (C : CoV) (fl : Int32) (Y : YrV) : Nat → YrV × Int32
  | 0 => (Y, 0)
  | x + 1 => if hasB fl x = true then (yrFlood (coRun C fl Y x).1 x, (coRun C fl Y x).2) else if yrLost (coRun C fl Y x).1 x = false then ((coRun C fl Y x).1, (coRun C fl Y x).2 + coWo C x / 10) else coRun C fl Y x
def coFl (C : CoV) (tr : Nat → TrV) (Y : YrV) (st : Int32) : Int32 :=
  coWater C (coPay tr Y (coTc C)).2.2.2.1 st (coGuards C tr (coPay tr Y (coTc C)) st (coTc C)) 0
def coYear (C : CoV) (tr : Nat → TrV) (Y : YrV) (st : Int32) : YrV :=
  let Z := coRun C (coFl C tr Y st) (coPay tr Y (coTc C)) (coN C)
  (Z.1.1 + 1, imin 999 (Z.1.2.1 + Z.2), Z.1.2.2)
theorem bTs_at2 (Γ : GG) (c k : Nat → Nat) (tr : Nat → TrV) (t : TrV) {i : Nat} (h : i < 6) : (bTs Γ c k (va_up tr i t))[i]? = some (c (6 + i), .inr (9, [.ref (k t.1), .int t.2.1, .int t.2.2.1, .int t.2.2.2.1, .int t.2.2.2.2.1, .int t.2.2.2.2.2.1, .int t.2.2.2.2.2.2.1, .int t.2.2.2.2.2.2.2])) := by
  rw [bTs_at Γ c k (va_up tr i t) h, va_up_self]
theorem bTs_set2 {Γ : GG} {c k : Nat → Nat} {tr : Nat → TrV} {i : Nat} {t0 t : TrV} (h : i < 6) : (bTs Γ c k (va_up tr i t0)).set i (c (6 + i), .inr (9, [.ref (k t.1), .int t.2.1, .int t.2.2.1, .int t.2.2.2.1, .int t.2.2.2.2.1, .int t.2.2.2.2.2.1, .int t.2.2.2.2.2.2.1, .int t.2.2.2.2.2.2.2])) = bTs Γ c k (va_up tr i t) := by
  rw [bTs_set h, bx_uu]
