theorem inv_cong {C : CoV} {tr : Nat → TrV} {Y Z : YrV} (h : Inv C tr Y) (e : Z.1 = Y.1) : Inv C tr Z := ⟨h.1, h.2.1, h.2.2.1, h.2.2.2.1, h.2.2.2.2.1, h.2.2.2.2.2.1, h.2.2.2.2.2.2.1, by rw [e]; exact h.2.2.2.2.2.2.2⟩
theorem hasB_0 {x : Nat} : hasB 0 x = false := by
  unfold hasB
  rw [show (0 : Int32) &&& bit x = 0 from Int32.zero_and]
  rfl
theorem coPay_1 {tr : Nat → TrV} {Y : YrV} : ∀ {n : Nat}, (coPay tr Y n).1 = Y.1
  | 0 => rfl
  | n + 1 => by
    rw [coPay]
    split
    · split
      · exact coPay_1
      · exact coPay_1
    · exact coPay_1
theorem sub_zero (x : Int32) : x - 0 = x := Int32.sub_zero x
theorem add_zero' (x : Int32) : x + 0 = x := Int32.add_zero x
theorem imin_comm (a b : Int32) : imin a b = imin b a := by
  unfold imin
  by_cases h : b < a
  · rw [if_pos h, if_neg (Int32.not_lt.mpr (Int32.le_of_lt h))]
  · rw [if_neg h]
    by_cases h2 : a < b
    · rw [if_pos h2]
    · rw [if_neg h2]
      exact Int32.le_antisymm (Int32.not_lt.mp h) (Int32.not_lt.mp h2)
theorem pay_no {tr : Nat → TrV} {Y Z : YrV} {t : Nat} {z : Int32} (hZ : Z = coPay tr Y t) (hz : Z.1 = z) (h : (!yrBr Z t && trRuns (tr t) z) = false) : Z = coPay tr Y (t + 1) := by
  rw [coPay, ← hZ, if_neg]
  intro hh
  rw [hz] at hh
  rw [hh.1, hh.2] at h
  exact absurd h (by decide)
theorem pay_ok {tr : Nat → TrV} {Y Z W : YrV} {t : Nat} {z : Int32} (hZ : Z = coPay tr Y t) (hz : Z.1 = z) (h : (!yrBr Z t && trRuns (tr t) z) = true) (h2 : ¬ Z.2.1 < kDue (tr t).1 (tCosts (tr t)) z) (e : W = (Z.1, Z.2.1 - kDue (tr t).1 (tCosts (tr t)) z, Z.2.2)) : W = coPay tr Y (t + 1) := by
  rw [Bool.and_eq_true] at h
  rw [coPay, ← hZ, hz, if_pos ⟨by simpa using h.1, h.2⟩, if_pos (Int32.not_lt.mp h2), e, hz]
theorem pay_br {tr : Nat → TrV} {Y Z V W : YrV} {t : Nat} {z : Int32} (hZ : Z = coPay tr Y t) (hz : Z.1 = z) (h : (!yrBr Z t && trRuns (tr t) z) = true) (h2 : Z.2.1 < kDue (tr t).1 (tCosts (tr t)) z) (e1 : V = (Z.1, Z.2.1, Z.2.2.1 ||| bit t, Z.2.2.2)) (e : W = (V.1, V.2.1 - 0, V.2.2)) : W = coPay tr Y (t + 1) := by
  rw [Bool.and_eq_true] at h
  rw [coPay, ← hZ, hz, if_pos ⟨by simpa using h.1, h.2⟩, if_neg (Int32.not_le.mpr h2), e, e1, hz, sub_zero]
def runB (R : YrV × Int32) : YrV := (R.1.1, R.1.2.1 + R.2, R.1.2.2)
theorem upd_self {f : Nat → Int32} {x : Nat} {v : Int32} (h : v = f x) : upd f x v = f := funext fun j => by
  by_cases e : j = x
  · subst e; rw [pk_us]; exact h
  · exact pk_un e
theorem run_wet {C : CoV} {fl : Int32} {Y Z A B D : YrV} {x : Nat} (hZ : Z = runB (coRun C fl Y x)) (h : hasB fl x = true) (e1 : A = (Z.1, Z.2.1, Z.2.2.1, Z.2.2.2.1, upd Z.2.2.2.2 x (Z.2.2.2.2 x + 1))) (e2 : (0 < A.2.2.2.1 x ∧ B = (A.1, A.2.1, A.2.2.1, upd A.2.2.2.1 x (A.2.2.2.1 x - 1), A.2.2.2.2)) ∨ (¬ 0 < A.2.2.2.1 x ∧ B = (A.1, A.2.1, A.2.2.1, upd A.2.2.2.1 x (A.2.2.2.1 x - 0), A.2.2.2.2))) (e3 : D = (B.1, B.2.1 + 0, B.2.2)) : D = runB (coRun C fl Y (x + 1)) := by
  rw [coRun, if_pos h]
  generalize coRun C fl Y x = R at hZ
  subst hZ; subst e1
  rw [add_zero'] at e3
  rcases e2 with ⟨h1, e2⟩ | ⟨h1, e2⟩
  · subst e2; subst e3
    have h1' : 0 < R.1.2.2.2.1 x := h1
    unfold runB yrFlood
    rw [if_pos h1']
  · rw [upd_self (f := (_ : YrV).2.2.2.1) (by rw [sub_zero])] at e2
    subst e2; subst e3
    have h1' : ¬ 0 < R.1.2.2.2.1 x := h1
    unfold runB yrFlood
    rw [if_neg h1']
theorem run_dry {C : CoV} {fl : Int32} {Y Z A B D : YrV} {x : Nat} (hZ : Z = runB (coRun C fl Y x)) (h : hasB fl x = false) (e1 : A = (Z.1, Z.2.1, Z.2.2.1, Z.2.2.2.1, upd Z.2.2.2.2 x (Z.2.2.2.2 x + 0))) (e2 : B = (A.1, A.2.1, A.2.2.1, upd A.2.2.2.1 x (A.2.2.2.1 x - 0), A.2.2.2.2)) (e3 : (yrLost B x = true ∧ D = (B.1, B.2.1 + 0, B.2.2)) ∨ (yrLost B x = false ∧ D = (B.1, B.2.1 + C.2.2.2.1 x / 10, B.2.2))) : D = runB (coRun C fl Y (x + 1)) := by
  have eA : A = Z := by rw [e1, add_zero', upd_self rfl]
  have eB : B = Z := by rw [e2, sub_zero, upd_self rfl, eA]
  subst eB
  rw [coRun, if_neg (by rw [h]; exact Bool.false_ne_true)]
  have hl : yrLost B x = yrLost (coRun C fl Y x).1 x := by rw [hZ]; rfl
  rcases e3 with ⟨h1, e3⟩ | ⟨h1, e3⟩
  · rw [if_neg (by rw [← hl, h1]; simp), e3, add_zero']; exact hZ
  · rw [if_pos (by rw [← hl]; exact h1), e3, hZ]
    unfold runB
    rw [Int32.add_assoc]
theorem coRun_1 {C : CoV} {fl : Int32} {Y : YrV} : ∀ {n : Nat}, (coRun C fl Y n).1.1 = Y.1
  | 0 => rfl
  | n + 1 => by
    rw [coRun]
    split
    · exact coRun_1
    · split
      · exact coRun_1
      · exact coRun_1
theorem goes_end {C : CoV} {tr : Nat → TrV} {Y Z A B : YrV} {q : Int32} (hZ : Z = runB (coRun C (coFl C tr Y q) (coPay tr Y (coTc C)) C.1)) (e1 : A = (Z.1, imin Z.2.1 999, Z.2.2)) (e2 : B = (A.1 + 1, A.2)) : B = coYear C tr Y q := by
  subst e1; subst e2
  rw [hZ]
  unfold coYear runB
  rw [imin_comm]
theorem isof_b {b r : Bool} (h : (!b && r) = true) : b = false := by
  rw [Bool.and_eq_true] at h
  simpa using h.1
theorem runB_0 {C : CoV} {fl : Int32} {Z : YrV} : Z = runB (coRun C fl Z 0) := by
  show Z = (Z.1, Z.2.1 + 0, Z.2.2)
  rw [add_zero']
theorem goes_dead {p : Prop} {Z V : YrV} {d : Int32} {t : Nat} (h1 : Z.2.1 < d) (h2 : ¬ V.2.1 < d) (e : V = (Z.1, Z.2.1, Z.2.2.1 ||| bit t, Z.2.2.2)) : p := by
  rw [e] at h2
  exact absurd h1 h2
