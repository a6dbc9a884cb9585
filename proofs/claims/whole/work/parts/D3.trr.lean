theorem tr_ref {C : CoV} {tr : Nat → TrV} {Y : YrV} {k a c f t q : Int32} (h : IA C tr Y) (e : tTrR C k a c f t q < 0) : (tTr C tr k a c f t q).1 = C ∧ (tTr C tr k a c f t q).2 = tr := by
  unfold tTr
  by_cases ok : okTr C k a c f t q = true
  · rw [if_pos ok]
    unfold coAdd
    by_cases h6 : C.2.2.2.2.2.2.1 < 6
    · exact absurd e ((sg_tr h).mpr ⟨ok, h6⟩)
    · rw [if_neg (show ¬ coTc C < 6 from h6)]; exact ⟨rfl, rfl⟩
  · rw [if_neg ok]; exact ⟨rfl, rfl⟩
