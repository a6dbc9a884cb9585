def pop1 (x : Int32) : Int32 := x - ((x.toUInt32 >>> ((1 : Int32).toUInt32 &&& Int32.toUInt32 31)).toInt32 &&& 1431655765)
def pop2 (a : Int32) : Int32 := (a &&& 858993459) + ((a.toUInt32 >>> ((2 : Int32).toUInt32 &&& Int32.toUInt32 31)).toInt32 &&& 858993459)
def pop3 (b : Int32) : Int32 := (b + (b.toUInt32 >>> ((4 : Int32).toUInt32 &&& Int32.toUInt32 31)).toInt32) &&& 252645135
def pop4 (c : Int32) : Int32 := c + (c.toUInt32 >>> ((8 : Int32).toUInt32 &&& Int32.toUInt32 31)).toInt32
def pop5 (d : Int32) : Int32 := d + (d.toUInt32 >>> ((16 : Int32).toUInt32 &&& Int32.toUInt32 31)).toInt32
def popc (x : Int32) : Int32 := pop5 (pop4 (pop3 (pop2 (pop1 x)))) &&& 63
def popSum (C : CoV) (tr : Nat → TrV) (Y : YrV) : Nat → Int32
  | 0 => 0
  | m + 1 => popSum C tr Y m + popc (coNextF C tr (runM C tr Y m))
def clP (tr : Nat → TrV) (i j : Nat) : Bool := decide (trBits (tr i) &&& trBits (tr j) ≠ 0) && decide (imax (tFirst (tr i)) (tFirst (tr j)) < imin (tTill (tr i)) (tTill (tr j)))
def tillB (tr : Nat → TrV) (f : Nat → Int32) (i : Nat) : Nat → Int32
  | 0 => tTill (tr i)
  | j + 1 => if trBits (tr i) &&& trBits (tr j) ≠ 0 ∧ imax (tFirst (tr i)) (tFirst (tr j)) < imin (tillB tr f i j) (f j) then imax (tFirst (tr i)) (tFirst (tr j)) else tillB tr f i j
def meF (tr : Nat → TrV) (f : Nat → Int32) : Nat → (Nat → Int32)
  | 0 => f
  | i + 1 => upd (meF tr f i) i (tillB tr (meF tr f i) i i)
def meS (tr : Nat → TrV) (f : Nat → Int32) : Nat → Int32
  | 0 => 0
  | i + 1 => meS tr f i + (tTill (tr i) - tillB tr (meF tr f i) i i)
def leOk (a w : Int32) : Bool := wi a 0 2 && wi w 0 1
def leM (C : CoV) (tr : Nat → TrV) (Y : YrV) (a : Int32) : Int32 := ttWet C tr Y (coTown C a (coN C)) &&& (ttWet C tr Y 0 ^^^ -1)
def leR (C : CoV) (tr : Nat → TrV) (Y : YrV) (a w : Int32) : Int32 := if leOk a w = true then stWorth C Y (if w = 0 then leM C tr Y a &&& coTown C a (coN C) else leM C tr Y a &&& (coTown C a (coN C) ^^^ -1)) else -2
def bareB (C : CoV) (q : Int32) : Nat → Int32
  | 0 => 0
  | t + 1 => if hasB q t = true then bareB C q t else bareB C q t ||| coTown C (nI t) (coN C)
def lossV (C : CoV) (tr : Nat → TrV) (Y : YrV) (t : Nat) (q : Int32) : Int32 := yrFeet Y (coTown C (nI t) (coN C) &&& (bareB C q 3 ^^^ -1)) 8 + stWorth C Y (ttWet C tr Y (bareB C q 3) &&& coTown C (nI t) (coN C))
def restP (C : CoV) (tr : Nat → TrV) (Y : YrV) (q : Int32) (t : Nat) : Bool := !decide (lossV C tr Y t (q ^^^ bit t) < lossV C tr Y t q)
def cntN (p : Nat → Bool) : Nat → Nat
  | 0 => 0
  | n + 1 => if p n = true then cntN p n + 1 else cntN p n
def fstN (p : Nat → Bool) : Nat → Int32
  | 0 => -1
  | n + 1 => if p n = true ∧ cntN p n = 0 then nI n else fstN p n
def reP (C : CoV) (tr : Nat → TrV) (Y : YrV) (q : Nat) : Bool := allN (restP C tr Y (nI q)) 3
def reR (C : CoV) (tr : Nat → TrV) (Y : YrV) (w : Int32) : Int32 := if wi w 0 1 = true then (if w = 0 then nI (cntN (reP C tr Y) 8) else fstN (reP C tr Y) 8) else -10
theorem cntN_le (p : Nat → Bool) : ∀ n, cntN p n ≤ n
  | 0 => Nat.le_refl 0
  | n + 1 => by
    have := cntN_le p n
    rw [cntN]
    split <;> omega
def wetB (C : CoV) (Y : YrV) (w : Int32) : Int32 := coWater C Y.2.2.2.1 w 0 0
def fitW (C : CoV) (Y : YrV) (k : Int32) : Nat → Int32
  | 0 => 0
  | w + 1 => if allN (coFit1 C k (wetB C Y (nI w))) (coDc C) = true then fitW C Y k w ||| bit w else fitW C Y k w
def cntW (C : CoV) (Y : YrV) (x : Nat) (q : Int32) : Nat → Int32
  | 0 => 0
  | w + 1 => if hasB q w = true ∧ hasB (wetB C Y (nI w)) x = true then cntW C Y x q w + 1 else cntW C Y x q w
def neL (C : CoV) (Y : YrV) (q : Int32) (x : Nat) : Int32 := imax (cntW C Y x q 16) (popc q - cntW C Y x q 16)
def neS (C : CoV) (Y : YrV) (q : Int32) : Nat → Int32 × Int32
  | 0 => (-1, popc q + 1)
  | x + 1 => if neL C Y q x < (neS C Y q x).2 then (nI x, neL C Y q x) else neS C Y q x
def neR (C : CoV) (Y : YrV) (q : Int32) : Int32 := if q = 0 then -1 else (neS C Y q (coN C)).1
def lnOk (k w : Int32) : Bool := wi k 0 7 && wi w 0 1
def lnR (C : CoV) (Y : YrV) (k w : Int32) : Int32 := if lnOk k w = true then (if w = 0 then popc (fitW C Y k 16) else neR C Y (fitW C Y k 16)) else -10
def liF (q : Int32) (x : Nat) : Bool := decide (q >>> nI x = 0) && (decide (x < 2) || !decide (q >>> (nI x - 2 &&& 31) = 0))
def shOk (C : CoV) (q w : Int32) : Bool := wi q 0 (bit (coN C) - 1) && wi w 0 1
def shR (C : CoV) (q w : Int32) : Int32 := if shOk C q w = true then (if w = 0 then nI (cntN (liF q) (coN C + 1)) else fstN (liF q) (coN C + 1)) else -10
theorem fst_no {p : Nat → Bool} {i : Nat} {b : Int32} (hb : b = fstN p i) (h : p i = false) : b = fstN p (i + 1) := by
  rw [fstN, if_neg (by rw [h]; intro q; exact absurd q.1 Bool.false_ne_true)]; exact hb
theorem fst_ys {p : Nat → Bool} {i n : Nat} (hc : n = cntN p i) (h : p i = true) (h0 : n = 0) : nI i = fstN p (i + 1) := by
  rw [fstN, if_pos ⟨h, by rw [← hc]; exact h0⟩]
theorem fst_nn {p : Nat → Bool} {i n : Nat} {b : Int32} (hb : b = fstN p i) (hc : n = cntN p i) (h : p i = true) (h0 : ¬ n = 0) : b = fstN p (i + 1) := by
  rw [fstN, if_neg (fun q => h0 (hc.trans q.2))]; exact hb
theorem neS_no {C : CoV} {Y : YrV} {q a b : Int32} {i : Nat} (ha : (b, a) = neS C Y q i) (h : a ≤ neL C Y q i) : (b, a) = neS C Y q (i + 1) := by
  rw [neS, ← ha, if_neg (Int32.not_lt.mpr h)]
theorem neS_ys {C : CoV} {Y : YrV} {q a b : Int32} {i : Nat} (ha : (b, a) = neS C Y q i) (h : ¬ a ≤ neL C Y q i) : (nI i, neL C Y q i) = neS C Y q (i + 1) := by
  rw [neS, ← ha, if_pos (Int32.not_le.mp h)]
