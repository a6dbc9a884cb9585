abbrev coSetCell (C : CoV) (x : Nat) (h w t : Int32) : CoV := (C.1, C.2.1, upd (coHt C) x h, upd (coWo C) x w, upd (coTn C) x t, C.2.2.2.2.2)
abbrev co0 (n : Nat) (C : CoV) : CoV := (n, 4, fun _ => 2, fun _ => 10, fun _ => 0, fun _ => 3, 0, 0, C.2.2.2.2.2.2.2.2)
def coAddR (C : CoV) : Int32 := if coTc C < 6 then nI (coTc C) else -4
def coAdd (C : CoV) (tr : Nat → TrV) (kd : Nat) (a b f t q : Int32) : CoV × (Nat → TrV) :=
  if coTc C < 6 then ((C.1, C.2.1, coHt C, coWo C, coTn C, coWn C, coTc C + 1, C.2.2.2.2.2.2.2), va_up tr (coTc C) (kd, nI kd, a, b, f, t, q, kCosts kd q)) else (C, tr)
def coTideR (C : CoV) : Int32 := if coDc C < 6 then nI (coDc C + 1) else -4
def coTide (C : CoV) (a b : Int32) (w : Bool) : CoV :=
  if coDc C < 6 then (C.1, C.2.1, coHt C, coWo C, coTn C, coWn C, coTc C, coDc C + 1, upd (coTw C) (coDc C) a, upd (coTd C) (coDc C) b, upd (coTv C) (coDc C) (bI w)) else C
abbrev coNoTides (C : CoV) : CoV := (C.1, C.2.1, coHt C, coWo C, coTn C, coWn C, coTc C, 0, C.2.2.2.2.2.2.2.2)
def coTown (C : CoV) (t : Int32) : Nat → Int32
  | 0 => 0
  | x + 1 => if coTn C x = t then coTown C t x ||| bit x else coTown C t x
def coWorth (C : CoV) (q : Int32) : Nat → Int32
  | 0 => 0
  | x + 1 => if hasB q x = true then coWorth C q x + coWo C x else coWorth C q x
def coFit1 (C : CoV) (k q : Int32) (i : Nat) : Bool := !(decide (coTw C i = k) && !decide ((q >>> (coTd C i &&& 31)) &&& 1 = coTv C i))
def allN (p : Nat → Bool) : Nat → Bool
  | 0 => true
  | n + 1 => allN p n && p n
theorem allN_f {p : Nat → Bool} {i : Nat} : ∀ {n : Nat}, i < n → p i = false → allN p n = false
  | 0, h, _ => by omega
  | n + 1, h, hp => by
    rw [allN]
    by_cases e : i = n
    · subst e; rw [hp, Bool.and_false]
    · rw [allN_f (by omega) hp, Bool.false_and]
def mixF (f : Nat → Int32) (h : Int64) : Nat → Int64
  | 0 => h
  | k + 1 => 31 * mixF f h k + (f k).toInt64
def coMixT (C : CoV) (h : Int64) : Nat → Int64
  | 0 => h
  | i + 1 => 31 * (31 * (31 * coMixT C h i + (coTw C i).toInt64) + (coTd C i).toInt64) + (coTv C i).toInt64
def trCpy (a b : Nat → TrV) (n : Nat) : Nat → TrV := fun j => if j < n then a j else b j
theorem trCpy_0 {a b : Nat → TrV} : trCpy a b 0 = b := funext fun j => by simp [trCpy]
theorem trCpy_s {a b : Nat → TrV} {i : Nat} : va_up (trCpy a b i) i (a i) = trCpy a b (i + 1) := funext fun j => by
  by_cases e : j = i
  · subst e; rw [va_up_self]; simp [trCpy]
  · rw [va_up_ne _ _ e]
    simp only [trCpy]
    by_cases h : j < i
    · rw [if_pos h, if_pos (by omega)]
    · rw [if_neg h, if_neg (by omega)]
theorem wet_a {C : CoV} {dk : Nat → Int32} {q g b : Int32} {x : Nat} (h : hasB b x = false) (h2 : q ≤ C.2.2.1 x + dk x) : coStop C dk q g b x = true := by
  unfold coStop coTop
  rw [h, if_neg Bool.false_ne_true]
  simp [h2]
theorem wet_b {C : CoV} {dk : Nat → Int32} {q g b : Int32} {x : Nat} (h : hasB b x = true) (h2 : q ≤ C.2.2.1 x + 0) : coStop C dk q g b x = true := by
  unfold coStop coTop
  rw [h, if_pos rfl]
  simp only [Bool.or_eq_true, decide_eq_true_eq]
  exact Or.inl h2
theorem wet_c {C : CoV} {dk : Nat → Int32} {q g b : Int32} {x : Nat} (h : hasB g x = true) : coStop C dk q g b x = true := by
  unfold coStop
  rw [h, Bool.or_true]
