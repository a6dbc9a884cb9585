def coNext (C : CoV) (tr : Nat → TrV) (Z : YrV) : YrV := coYear C tr Z (coStorm C Z.1)
def coNextF (C : CoV) (tr : Nat → TrV) (Z : YrV) : Int32 := coFl C tr Z (coStorm C Z.1)
def runM (C : CoV) (tr : Nat → TrV) (Y : YrV) : Nat → YrV
  | 0 => Y
  | m + 1 => coNext C tr (runM C tr Y m)
def runF (C : CoV) (tr : Nat → TrV) (Y : YrV) : Nat → Int32
  | 0 => 0
  | m + 1 => coNextF C tr (runM C tr Y m)
def outV (C : CoV) (Z : YrV) (f w : Int32) : Int32 := if w = 0 then Z.2.1 else if w = 1 then f else if w = 2 then yrLostB Z 8 else if w = 3 then coWorth C (yrLostB Z 8 ^^^ -1) (coN C) else Z.2.2.1
def thOk (m w : Int32) : Bool := wi m 0 30 && wi w 0 4
def thR (C : CoV) (tr : Nat → TrV) (Y : YrV) (m w : Int32) : Int32 := if thOk m w = true then outV C (runM C tr Y m.toNatClampNeg) (runF C tr Y m.toNatClampNeg) w else -2
def flP (C : CoV) (tr : Nat → TrV) (Y : YrV) (k : Nat) : Bool := decide (yrLostB (runM C tr Y (k + 1)) 8 ≠ 0)
def flR (C : CoV) (tr : Nat → TrV) (Y : YrV) : Int32 := if yrLostB Y 8 ≠ 0 then Y.1 else if firstN (flP C tr Y) 30 < 30 then (runM C tr Y (firstN (flP C tr Y) 30)).1 else -1
def tiR (C : CoV) (k a : Int32) : Int32 := if wi k 0 7 = true ∧ stCell C a = true then coTideR C else -2
def tiC (C : CoV) (k a : Int32) (w : Bool) : CoV := if wi k 0 7 = true ∧ stCell C a = true then coTide C k a w else C
def buR (C : CoV) (w : Int32) : Int32 := if wi w 0 1 = true then (if w = 0 then nI (coTc C) else nI (coDc C)) else -2
def buC (C : CoV) (w : Int32) : CoV := if wi w 0 1 = true then (if w = 0 then coNoTr C else coNoTides C) else C
def buY (Y : YrV) (w : Int32) : YrV := if w = 0 then yrNoBr Y else Y
def cnR (C : CoV) (Y : YrV) (pc len : Nat) (w : Int32) : Int32 := if wi w 0 7 = true then amV C Y pc len w else -2
def suR (V : V3) (w : Int32) : Int32 := if w = 0 then V.1 else if w = 1 then V.2.1 else if w = 2 then V.2.2 else -1
def suV (V : V3) (w : Int32) : V3 := if w = 0 ∨ w = 1 ∨ w = 2 then V else badV V
theorem ofOk_f {C : CoV} {x w : Int32} (h0 : ¬ w = 0) (h1 : ¬ w = 1) (h2 : ¬ w = 2) (h3 : ¬ w = 3) (h4 : ¬ w = 4) (h5 : ¬ w = 5) : ofOk C x w = false := by
  unfold ofOk
  rw [wi_out, Bool.and_false]
  have z0 := sw_ne h0; have z1 := sw_ne h1; have z2 := sw_ne h2; have z3 := sw_ne h3; have z4 := sw_ne h4; have z5 := sw_ne h5
  have q0 : (0 : Int32).toInt = 0 := rfl
  have q1 : (1 : Int32).toInt = 1 := rfl
  have q2 : (2 : Int32).toInt = 2 := rfl
  have q3 : (3 : Int32).toInt = 3 := rfl
  have q4 : (4 : Int32).toInt = 4 := rfl
  have q5 : (5 : Int32).toInt = 5 := rfl
  omega
theorem abOk_f {C : CoV} {x w : Int32} (h0 : ¬ w = 0) (h1 : ¬ w = 1) (h2 : ¬ w = 2) (h3 : ¬ w = 3) (h4 : ¬ w = 4) : abOk C x w = false := by
  unfold abOk
  rw [wi_out, Bool.and_false]
  have z0 := sw_ne h0; have z1 := sw_ne h1; have z2 := sw_ne h2; have z3 := sw_ne h3; have z4 := sw_ne h4
  have q0 : (0 : Int32).toInt = 0 := rfl
  have q1 : (1 : Int32).toInt = 1 := rfl
  have q2 : (2 : Int32).toInt = 2 := rfl
  have q3 : (3 : Int32).toInt = 3 := rfl
  have q4 : (4 : Int32).toInt = 4 := rfl
  omega
