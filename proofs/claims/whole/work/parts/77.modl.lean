theorem coRun_y {C : CoV} {fl : Int32} {Y : YrV} : ∀ {x : Nat}, (coRun C fl Y x).1.1 = Y.1
  | 0 => rfl
  | x + 1 => by
    have ih := coRun_y (C := C) (fl := fl) (Y := Y) (x := x)
    rw [coRun]
    split
    · exact ih
    · split
      · exact ih
      · exact ih
theorem coPay_y {tr : Nat → TrV} {Y : YrV} : ∀ {t : Nat}, (coPay tr Y t).1 = Y.1
  | 0 => rfl
  | t + 1 => by
    have ih := coPay_y (tr := tr) (Y := Y) (t := t)
    rw [coPay]
    repeat' split
    all_goals exact ih
theorem coYear_y {C : CoV} {tr : Nat → TrV} {Y : YrV} {q : Int32} : (coYear C tr Y q).1 = Y.1 + 1 := by
  have h : (coYear C tr Y q).1 = (coRun C (coFl C tr Y q) (coPay tr Y (coTc C)) (coN C)).1.1 + 1 := rfl
  rw [h, coRun_y, coPay_y]
theorem runM_y {C : CoV} {tr : Nat → TrV} {Y : YrV} {y : Nat} (h : Y.1 = nI y) : ∀ {k : Nat}, (runM C tr Y k).1 = nI (y + k)
  | 0 => h
  | k + 1 => by
    rw [runM]
    unfold coNext
    rw [coYear_y, runM_y h (k := k)]
    exact nI_s _
theorem inv_run {C : CoV} {tr : Nat → TrV} {Y : YrV} {y k : Nat} (hI : Inv C tr Y) (h : Y.1 = nI y) (hk : y + k < 1000000) : Inv C tr (runM C tr Y k) :=
  ⟨hI.1, hI.2.1, hI.2.2.1, hI.2.2.2.1, hI.2.2.2.2.1, hI.2.2.2.2.2.1, hI.2.2.2.2.2.2.1, ⟨y + k, runM_y h, hk⟩⟩
def flB (C : CoV) (tr : Nat → TrV) (Y : YrV) : Nat → Int32
  | 0 => 0
  | m + 1 => flB C tr Y m + bitsN (coNextF C tr (runM C tr Y m)) 8
