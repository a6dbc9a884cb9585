theorem fl_one {bs : BW} : ([bs.flatten] : BW).flatten = bs.flatten := by simp
theorem bP_fl {Γ : GG} {bs : BW} {H : Heap} (h : bP Γ bs H) : bP Γ [bs.flatten] H := by
  show va_P _ _ ([bs.flatten] : BW).flatten _
  rw [fl_one]; exact h
theorem bD_fl {A : Nat → Prop} {bs : BW} (h : bD A bs) : bD A [bs.flatten] := by
  show va_D _ ([bs.flatten] : BW).flatten
  rw [fl_one]; exact h
theorem fl_app {pre bs : BW} : (pre ++ [bs.flatten]).flatten = (pre ++ bs).flatten := by simp
theorem bP_lf {Γ : GG} {pre bs : BW} {H : Heap} (h : bP Γ (pre ++ [bs.flatten]) H) : bP Γ (pre ++ bs) H := by
  show va_P _ _ (pre ++ bs).flatten _
  rw [← fl_app]; exact h
theorem bD_lf {A : Nat → Prop} {pre bs : BW} (h : bD A (pre ++ [bs.flatten])) : bD A (pre ++ bs) := by
  show va_D _ (pre ++ bs).flatten
  rw [← fl_app]; exact h
