theorem sw_ne {w : Int32} {k : Int32} (h : ¬ w = k) : w.toInt ≠ k.toInt := fun e => h (Int32.toInt_inj.mp e)
def ttRef (V : V3) (q : Int32) : V3 := if q = -2 then (V.1 + 1, V.2.1, V.2.2) else if q = -3 then (V.1, V.2.1 + 1, V.2.2) else (V.1, V.2.1, V.2.2 + 1)
def toldV (V : V3) (a : Int32) : V3 := if a < 0 then ttRef V a else V
def toldP (a : Int32) (pc : Nat) : Nat := if a < 0 then pc else 0
def badV (V : V3) : V3 := (V.1 + 1, V.2.1, V.2.2)
theorem ttRef_b (V : V3) : ttRef V (-2) = badV V := by unfold ttRef; rw [if_pos rfl]; rfl
def beR (Y : YrV) (n : Int32) : Int32 := if wi n 0 999 = true then Y.2.1 else -2
def beY (Y : YrV) (n : Int32) : YrV := if wi n 0 999 = true then (Y.1, n, Y.2.2) else Y
def stTreaty (C : CoV) (x : Int32) : Bool := wi x 0 (nI (coTc C) - 1)
theorem treaty_nat {C : CoV} {x : Int32} (h : stTreaty C x = true) (hn : C.2.2.2.2.2.2.1 ≤ 6) : ∃ j : Nat, j < C.2.2.2.2.2.2.1 ∧ x = nI j := by
  unfold stTreaty at h
  cases hC : coTc C with
  | zero =>
    rw [hC] at h
    obtain ⟨h1, h2⟩ := wi_iff.mp h
    have h3 : (0 : Int32) ≤ nI 0 - 1 := Int32.le_trans h1 h2
    exact absurd h3 (by decide)
  | succ n =>
    have hC' : C.2.2.2.2.2.2.1 = n + 1 := hC
    rw [hC, nI_pred] at h
    obtain ⟨j, hj, rfl⟩ := wi_nat 0 n h rfl rfl ⟨by decide, by omega⟩
    exact ⟨j, by omega, rfl⟩
def enR (C : CoV) (tr : Nat → TrV) (Y : YrV) (x : Int32) : Int32 := if stTreaty C x = true then (if trRuns (tr x.toNatClampNeg) Y.1 = true then 1 else -3) else -2
def enT (C : CoV) (tr : Nat → TrV) (Y : YrV) (x : Int32) : Nat → TrV := if stTreaty C x = true ∧ trRuns (tr x.toNatClampNeg) Y.1 = true then
  va_up tr x.toNatClampNeg ((tr x.toNatClampNeg).1, (tr x.toNatClampNeg).2.1, tFrom (tr x.toNatClampNeg), tTo (tr x.toNatClampNeg), tFirst (tr x.toNatClampNeg), Y.1, tPrice (tr x.toNatClampNeg), tCosts (tr x.toNatClampNeg)) else tr
def tyR (L : ScV) (c : Int32) : Int32 := if wi c 0 127 = true then (if L.1 < 150 then nI (L.1 + 1) else -4) else -2
def tyS (L : ScV) (c : Int32) : ScV := if wi c 0 127 = true ∧ L.1 < 150 then (L.1 + 1, L.2.1, L.2.2.1, L.2.2.2.1, upd L.2.2.2.2.1 L.1 c, L.2.2.2.2.2) else L
def stR (C : CoV) (n : Int32) : Int32 := if wi n 0 999 = true then coStorm C n else -2
def stV (V : V3) (ok : Bool) : V3 := if ok = true then V else badV V
def ttGu (C : CoV) (tr : Nat → TrV) (Y : YrV) : Int32 := coGuards C tr Y (coStorm C Y.1) (coTc C)
def ttWet (C : CoV) (tr : Nat → TrV) (Y : YrV) (b : Int32) : Int32 := coWater C Y.2.2.2.1 (coStorm C Y.1) (ttGu C tr Y) b
def ofV (C : CoV) (Y : YrV) (x : Nat) (w : Int32) : Int32 := if w = 0 then coHt C x else if w = 1 then coWo C x else if w = 2 then coTn C x else if w = 3 then Y.2.2.2.1 x else if w = 4 then Y.2.2.2.2 x else bI (yrLost Y x)
def ofOk (C : CoV) (x w : Int32) : Bool := stCell C x && wi w 0 5
def ofR (C : CoV) (Y : YrV) (x w : Int32) : Int32 := if ofOk C x w = true then ofV C Y x.toNatClampNeg w else -2
def abV (C : CoV) (t : TrV) (b : Bool) (Y : YrV) (w : Int32) : Int32 := if w = 0 then t.2.1 else if w = 1 then tCosts t else if w = 2 then kHolds t.1 (coSpring C Y.1) else if w = 3 then bI b else tTill t
def abOk (C : CoV) (x w : Int32) : Bool := stTreaty C x && wi w 0 4
def abR (C : CoV) (tr : Nat → TrV) (Y : YrV) (x w : Int32) : Int32 := if abOk C x w = true then abV C (tr x.toNatClampNeg) (yrBr Y x.toNatClampNeg) Y w else -2
def amV (C : CoV) (Y : YrV) (pc len : Nat) (w : Int32) : Int32 := if w = 0 then nI (coN C) else if w = 1 then Y.1 else if w = 2 then Y.2.1 else if w = 3 then coMoon C else if w = 4 then nI (coTc C) else if w = 5 then nI (coDc C) else if w = 6 then nI pc else nI len
theorem wi_out {w : Int32} {b : Int32} (h : w.toInt < 0 ∨ b.toInt < w.toInt) : wi w 0 b = false := by
  rw [← Bool.not_eq_true, wi_iff]
  intro ⟨h1, h2⟩
  have h3 := Int32.le_iff_toInt_le.mp h1
  have h4 := Int32.le_iff_toInt_le.mp h2
  have h5 : (0 : Int32).toInt = 0 := rfl
  omega
theorem sw_nx {w : Int32} {k : Int32} (h : ¬ w = k) {n : Int} (hk : k.toInt = n) : w.toInt ≠ n := fun e => h (Int32.toInt_inj.mp (e.trans hk.symm))
