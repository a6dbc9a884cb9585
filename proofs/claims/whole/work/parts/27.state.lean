def wi (x a b : Int32) : Bool := decide (a ≤ x) && decide (x ≤ b)
theorem wi_iff {x a b : Int32} : wi x a b = true ↔ a ≤ x ∧ x ≤ b := by simp [wi]
theorem wi_nat {x A B : Int32} (a b : Nat) (h : wi x A B = true) (hA : A = nI a) (hB : B = nI b) (hl : a < 2 ^ 31 ∧ b < 2 ^ 31) : ∃ j : Nat, (a ≤ j ∧ j ≤ b) ∧ x = nI j := by
  subst hA; subst hB
  obtain ⟨h1, h2⟩ := wi_iff.mp h
  have h0 : ¬ x < 0 := fun h3 => nI_pos hl.1 (Int32.lt_of_le_of_lt h1 h3)
  obtain ⟨j, hj, rfl⟩ := nI_of h0
  exact ⟨j, ⟨(nI_leI hl.1 hj).mp h1, (nI_leI hj hl.2).mp h2⟩, rfl⟩
def stCell (C : CoV) (x : Int32) : Bool := wi x 0 (nI (coN C) - 1)
theorem cell_nat {C : CoV} {x : Int32} (h : stCell C x = true) (hn : C.1 ≤ 8) : ∃ j : Nat, j < C.1 ∧ x = nI j := by
  unfold stCell at h
  cases hC : coN C with
  | zero =>
    rw [hC] at h
    obtain ⟨h1, h2⟩ := wi_iff.mp h
    have h3 : (0 : Int32) ≤ nI 0 - 1 := Int32.le_trans h1 h2
    exact absurd h3 (by decide)
  | succ n =>
    have hC' : C.1 = n + 1 := hC
    rw [hC, nI_pred] at h
    obtain ⟨j, hj, rfl⟩ := wi_nat 0 n h rfl rfl ⟨by decide, by omega⟩
    exact ⟨j, by omega, rfl⟩
def tCoR (n : Int32) (C : CoV) : Int32 := if wi n 1 8 = true then nI (coN C) else -2
def tCo (n : Int32) (C : CoV) (Y : YrV) : CoV × YrV := if wi n 1 8 = true then (co0 n.toNatClampNeg C, yr0) else (C, Y)
def okCell (C : CoV) (x h w t : Int32) : Bool := stCell C x && wi h 0 9 && wi w 0 99 && wi t 0 2
def tCeR (C : CoV) (x h w t : Int32) : Int32 := if okCell C x h w t = true then coHt C x.toNatClampNeg else -2
def tCe (C : CoV) (Y : YrV) (x h w t : Int32) : CoV × YrV := if okCell C x h w t = true then (coSetCell C x.toNatClampNeg h w t, (Y.1, Y.2.1, Y.2.2.1, Y.2.2.2.1, upd Y.2.2.2.2 x.toNatClampNeg 0)) else (C, Y)
def okDike (C : CoV) (x n : Int32) : Bool := stCell C x && wi n 0 9
def tDiR (C : CoV) (Y : YrV) (x n : Int32) : Int32 := if okDike C x n = true then Y.2.2.2.1 x.toNatClampNeg else -2
def tDi (C : CoV) (Y : YrV) (x n : Int32) : YrV := if okDike C x n = true then (Y.1, Y.2.1, Y.2.2.1, upd Y.2.2.2.1 x.toNatClampNeg n, Y.2.2.2.2) else Y
def okWant (k n : Int32) : Bool := wi k 0 7 && wi n 0 15
def tWaR (C : CoV) (k n : Int32) : Int32 := if okWant k n = true then coWn C k.toNatClampNeg else -2
def tWa (C : CoV) (k n : Int32) : CoV := if okWant k n = true then (C.1, C.2.1, coHt C, coWo C, coTn C, upd (coWn C) k.toNatClampNeg n, C.2.2.2.2.2.2) else C
def tMoR (C : CoV) (n : Int32) : Int32 := if wi n 1 9 = true then coMoon C else -2
def tMo (C : CoV) (n : Int32) : CoV := if wi n 1 9 = true then (C.1, n, C.2.2) else C
def okTr (C : CoV) (k a b f t q : Int32) : Bool := wi k 0 5 && wi q 0 20 && stCell C a && stCell C b && decide (a ≤ b) && wi f 0 99 && wi t 0 99
def tTrR (C : CoV) (k a b f t q : Int32) : Int32 := if okTr C k a b f t q = true then coAddR C else -2
def tTr (C : CoV) (tr : Nat → TrV) (k a b f t q : Int32) : CoV × (Nat → TrV) := if okTr C k a b f t q = true then coAdd C tr k.toNatClampNeg a b f t q else (C, tr)
abbrev coNoTr (C : CoV) : CoV := (C.1, C.2.1, coHt C, coWo C, coTn C, coWn C, 0, C.2.2.2.2.2.2.2)
abbrev yrNoBr (Y : YrV) : YrV := (Y.1, Y.2.1, 0, Y.2.2.2)
def stWorth (C : CoV) (Y : YrV) (q : Int32) : Int32 := coWorth C (q &&& (yrLostB Y 8 ^^^ -1)) (coN C)
def stMixC (C : CoV) (Y : YrV) (h : Int64) : Nat → Int64
  | 0 => h
  | x + 1 => 31 * (31 * (31 * (31 * (31 * stMixC C Y h x + (coHt C x).toInt64) + (coWo C x).toInt64) + (coTn C x).toInt64) + (Y.2.2.2.1 x).toInt64) + (Y.2.2.2.2 x).toInt64
def stMixT (tr : Nat → TrV) (Y : YrV) (h : Int64) : Nat → Int64
  | 0 => h
  | i + 1 => 31 * (31 * (31 * (31 * (31 * (31 * (31 * stMixT tr Y h i + (tr i).2.1.toInt64) + (tFrom (tr i)).toInt64) + (tTo (tr i)).toInt64) + (tFirst (tr i)).toInt64) + (tTill (tr i)).toInt64) + (tPrice (tr i)).toInt64) + (bI (yrBr Y i)).toInt64
