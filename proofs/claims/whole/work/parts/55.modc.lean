def rangeB (a : Nat) : Nat → Int32
  | 0 => 0
  | k + 1 => rangeB a k ||| bit (a + k)
theorem rangeB_all : ∀ a, a < 8 → ∀ b, b < 8 → a ≤ b → rangeB a (b + 1 - a) = ((2 : Int32) <<< (nI b &&& 31)) - ((1 : Int32) <<< (nI a &&& 31)) := by decide +kernel
theorem rangeB_tr {T : TrV} {a b : Nat} (ea : tFrom T = nI a) (eb : tTo T = nI b) (hab : a ≤ b) (hb : b < 8) : rangeB a (b + 1 - a) = trBits T := by
  unfold trBits
  rw [ea, eb]
  exact rangeB_all a (by omega) b hb hab
theorem gu_no {C : CoV} {tr : Nat → TrV} {Y : YrV} {q a : Int32} {t : Nat} (ha : a = coGuards C tr Y q t) (h : (!yrBr Y t && trRuns (tr t) Y.1) = false) : a = coGuards C tr Y q (t + 1) := by
  rw [coGuards, ← ha, if_neg]
  intro hh
  rw [hh.1, hh.2.1] at h
  exact absurd h (by decide)
theorem gu_n2 {C : CoV} {tr : Nat → TrV} {Y : YrV} {q a : Int32} {t : Nat} (ha : a = coGuards C tr Y q t) (h : kHolds (tr t).1 (coSpring C Y.1) < q) : a = coGuards C tr Y q (t + 1) := by
  rw [coGuards, ← ha, if_neg]
  intro hh
  exact Int32.not_le.mpr h hh.2.2
theorem gu_ys {C : CoV} {tr : Nat → TrV} {Y : YrV} {q a : Int32} {t a0 b0 : Nat} (ha : a = coGuards C tr Y q t) (h : (!yrBr Y t && trRuns (tr t) Y.1) = true) (h2 : ¬ kHolds (tr t).1 (coSpring C Y.1) < q) (ea : tFrom (tr t) = nI a0) (eb : tTo (tr t) = nI b0) (hab : a0 ≤ b0) (hb : b0 < 8) : a ||| rangeB a0 (b0 + 1 - a0) = coGuards C tr Y q (t + 1) := by
  rw [Bool.and_eq_true] at h
  rw [coGuards, ← ha, if_pos ⟨by simpa using h.1, h.2, Int32.not_lt.mp h2⟩, rangeB_tr ea eb hab hb]
theorem or_range {a : Int32} {a0 x : Nat} (h : a0 ≤ x) : (a ||| rangeB a0 (x - a0)) ||| bit x = a ||| rangeB a0 (x + 1 - a0) := by
  rw [show x + 1 - a0 = x - a0 + 1 by omega, rangeB, show a0 + (x - a0) = x by omega, Int32.or_assoc]
theorem or_zero (a : Int32) : a ||| 0 = a := Int32.or_zero
theorem dry_a {C : CoV} {dk : Nat → Int32} {q g b : Int32} {x : Nat} (h : hasB b x = false) (h2 : ¬ q ≤ C.2.2.1 x + dk x) (h3 : hasB g x = false) : coStop C dk q g b x = false := by
  unfold coStop coTop
  rw [h, h3, if_neg Bool.false_ne_true, Bool.or_false]
  exact decide_eq_false h2
theorem dry_b {C : CoV} {dk : Nat → Int32} {q g b : Int32} {x : Nat} (h : hasB b x = true) (h2 : ¬ q ≤ C.2.2.1 x + 0) (h3 : hasB g x = false) : coStop C dk q g b x = false := by
  unfold coStop coTop
  rw [h, h3, if_pos rfl, Bool.or_false]
  exact decide_eq_false h2
