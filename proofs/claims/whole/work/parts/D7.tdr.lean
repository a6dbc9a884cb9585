theorem ti_ref {C : CoV} {k a : Int32} {w : Bool} (e : tiR C k a < 0) : tiC C k a w = C := by
  unfold tiC
  by_cases h1 : wi k 0 7 = true ∧ stCell C a = true
  · rw [if_pos h1]
    have e2 : tiR C k a = coTideR C := if_pos h1
    unfold coTide
    by_cases h6 : coDc C < 6
    · have e3 : coTideR C = nI (coDc C + 1) := if_pos h6
      rw [e2, e3] at e
      exact absurd e (nI_pos (by omega))
    · rw [if_neg h6]
  · rw [if_neg h1]
