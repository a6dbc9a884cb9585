def InvR (C : CoV) (Y : YrV) : Prop := (∀ x, x < 8 → ∃ h : Nat, C.2.2.1 x = nI h ∧ h ≤ 9) ∧ (∀ k, k < 8 → ∃ h : Nat, C.2.2.2.2.2.1 k = nI h ∧ h ≤ 15) ∧ ∀ x, x < 8 → ∃ h : Nat, Y.2.2.2.1 x = nI h ∧ h ≤ 9
/-- all that a coast and its year keep -/
def IA (C : CoV) (tr : Nat → TrV) (Y : YrV) : Prop := Inv C tr Y ∧ InvY C Y ∧ InvN C tr Y ∧ InvD C ∧ InvR C Y ∧ ∃ y : Nat, Y.1 = nI y ∧ y ≤ 909
theorem nat_u {f : Nat → Int32} {i j B : Nat} (h : ∀ x, x < 8 → ∃ k : Nat, f x = nI k ∧ k ≤ B) (hj : j ≤ B) : ∀ x, x < 8 → ∃ k : Nat, upd f i (nI j) x = nI k ∧ k ≤ B := fun x hx => by
  by_cases e : x = i
  · subst e; exact ⟨j, pk_us, hj⟩
  · rw [pk_un e]; exact h x hx
theorem invD_up {C : CoV} {a d : Int32} {b : Bool} (h : InvD C) : InvD (C.1, C.2.1, coHt C, coWo C, coTn C, coWn C, coTc C, coDc C + 1, upd (coTw C) (coDc C) a, upd (coTd C) (coDc C) d, upd (coTv C) (coDc C) (bI b)) := fun j hj => by
  have hj2 : j < C.2.2.2.2.2.2.2.1 + 1 := hj
  show upd (coTv C) (coDc C) (bI b) j = 0 ∨ upd (coTv C) (coDc C) (bI b) j = 1
  by_cases e : j = C.2.2.2.2.2.2.2.1
  · subst e
    rw [show upd (coTv C) (coDc C) (bI b) C.2.2.2.2.2.2.2.1 = bI b from pk_us]
    cases b
    · exact Or.inl rfl
    · exact Or.inr rfl
  · rw [show upd (coTv C) (coDc C) (bI b) j = coTv C j from pk_un e]
    exact h j (by omega)
section IAX
variable {C : CoV} {tr : Nat → TrV} {Y : YrV} {n k a w : Int32}
theorem ia_bells (h : IA C tr Y) : IA C tr (beY Y n) := by
  unfold beY
  split
  · rename_i c
    obtain ⟨h1, h2, h3, h4, h5, h6⟩ := h
    obtain ⟨j, hj, rfl⟩ := wi_nat 0 999 c rfl rfl (by decide)
    exact ⟨inv_cong h1 rfl, h2, ⟨⟨j, rfl, hj.2⟩, h3.2⟩, h4, h5, h6⟩
  · exact h
theorem ia_moon (h : IA C tr Y) : IA (tMo C n) tr Y := by
  unfold tMo
  split
  · rename_i c
    obtain ⟨h1, h2, h3, h4, h5, h6⟩ := h
    obtain ⟨j, hj, rfl⟩ := wi_nat 1 9 c rfl rfl (by decide)
    exact ⟨⟨h1.1, ⟨j, rfl, hj.1, hj.2⟩, h1.2.2⟩, h2, h3, h4, h5, h6⟩
  · exact h
theorem ia_want (h : IA C tr Y) : IA (tWa C k n) tr Y := by
  unfold tWa
  split
  · rename_i c
    unfold okWant at c
    rw [Bool.and_eq_true] at c
    obtain ⟨h1, h2, h3, h4, h5, h6⟩ := h
    obtain ⟨j, hj, rfl⟩ := wi_nat 0 15 c.2 rfl rfl (by decide)
    exact ⟨h1, h2, h3, h4, ⟨h5.1, nat_u h5.2.1 hj.2, h5.2.2⟩, h6⟩
  · exact h
theorem ia_dike (h : IA C tr Y) : IA C tr (tDi C Y a n) := by
  unfold tDi
  split
  · rename_i c
    unfold okDike at c
    rw [Bool.and_eq_true] at c
    obtain ⟨h1, h2, h3, h4, h5, h6⟩ := h
    obtain ⟨j, hj, rfl⟩ := wi_nat 0 9 c.2 rfl rfl (by decide)
    exact ⟨inv_cong h1 rfl, h2, h3, h4, ⟨h5.1, h5.2.1, nat_u h5.2.2 hj.2⟩, h6⟩
  · exact h
theorem ia_cell {t : Int32} (h : IA C tr Y) : IA (tCe C Y a n w t).1 tr (tCe C Y a n w t).2 := by
  unfold tCe
  split
  · rename_i c
    unfold okCell at c
    rw [Bool.and_eq_true, Bool.and_eq_true, Bool.and_eq_true] at c
    obtain ⟨h1, h2, h3, h4, h5, h6⟩ := h
    obtain ⟨j, hj, rfl⟩ := wi_nat 0 9 c.1.1.2 rfl rfl (by decide)
    obtain ⟨jw, hjw, rfl⟩ := wi_nat 0 99 c.1.2 rfl rfl (by decide)
    obtain ⟨jt, hjt, rfl⟩ := wi_nat 0 2 c.2 rfl rfl (by decide)
    have hn := inv_n h1
    obtain ⟨ja, hja, rfl⟩ := cell_nat c.1.1.1 hn
    refine ⟨⟨h1.1, h1.2.1, h1.2.2.1, h1.2.2.2.1, h1.2.2.2.2.1, fun x hx => ?_, h1.2.2.2.2.2.2⟩, ⟨fun x hx hx2 => ?_, h2.2⟩, ⟨h3.1, nat_u h3.2.1 hjw.2, h3.2.2⟩, h4, ⟨nat_u h5.1 hj.2, h5.2.1, h5.2.2⟩, h6⟩
    · show ∃ t : Nat, upd (coTn C) _ _ x = nI t ∧ t < 3
      by_cases e : x = (nI ja).toNatClampNeg
      · subst e; exact ⟨jt, pk_us, by omega⟩
      · rw [pk_un e]; exact h1.2.2.2.2.2.1 x hx
    · have hx' : C.1 ≤ x := hx
      rw [nI_clamp (by omega)]
      show yrLost (_, _, _, _, upd Y.2.2.2.2 ja 0) x = false
      unfold yrLost
      show decide ((3 : Int32) ≤ upd Y.2.2.2.2 ja 0 x) = false
      rw [pk_un (by omega)]
      exact h2.1 x hx' hx2
  · exact h
theorem ia_tide {b : Bool} (h : IA C tr Y) : IA (tiC C k a b) tr Y := by
  unfold tiC
  split
  · unfold coTide
    split
    · rename_i c6
      obtain ⟨h1, h2, h3, h4, h5, h6⟩ := h
      have c6' : C.2.2.2.2.2.2.2.1 < 6 := c6
      exact ⟨⟨h1.1, h1.2.1, h1.2.2.1, c6', h1.2.2.2.2⟩, h2, h3, invD_up h4, h5, h6⟩
    · exact h
  · exact h
theorem ia_burn (h : IA C tr Y) : IA (buC C w) tr (if wi w 0 1 = true then buY Y w else Y) := by
  obtain ⟨h1, h2, h3, h4, h5, h6⟩ := h
  unfold buC buY
  split
  · split
    · refine ⟨⟨h1.1, h1.2.1, Nat.zero_le _, h1.2.2.2.1, h1.2.2.2.2.1, h1.2.2.2.2.2.1, fun i hi => absurd hi (Nat.not_lt_zero _), h1.2.2.2.2.2.2.2⟩, ⟨h2.1, fun i _ => ?_⟩, ⟨h3.1, h3.2.1, fun i hi => absurd hi (Nat.not_lt_zero _)⟩, h4, h5, h6⟩
      show (0 : Int32).toBitVec.getLsbD i = false
      rw [show (0 : Int32).toBitVec = 0#32 from rfl]; simp
    · exact ⟨⟨h1.1, h1.2.1, h1.2.2.1, Nat.zero_le _, h1.2.2.2.2⟩, h2, h3, (fun j hj => absurd hj (Nat.not_lt_zero _)), h5, h6⟩
  · exact ⟨h1, h2, h3, h4, h5, h6⟩
theorem ia_end (h : IA C tr Y) : IA C (enT C tr Y a) Y := by
  unfold enT
  split
  · rename_i c
    obtain ⟨h1, h2, h3, h4, h5, h6⟩ := h
    generalize a.toNatClampNeg = j
    obtain ⟨y, hy, hyb⟩ := h6
    refine ⟨⟨h1.1, h1.2.1, h1.2.2.1, h1.2.2.2.1, fun i hi => ?_, h1.2.2.2.2.2.1, fun i hi => ?_, h1.2.2.2.2.2.2.2⟩, h2, ⟨h3.1, h3.2.1, fun i hi => ?_⟩, h4, h5, ⟨y, hy, hyb⟩⟩
    · by_cases e : i = j
      · subst e; rw [va_up_self]; exact h1.2.2.2.2.1 i hi
      · rw [va_up_ne _ _ e]; exact h1.2.2.2.2.1 i hi
    · by_cases e : i = j
      · subst e; rw [va_up_self]
        obtain ⟨a1, b1, f1, u1, e1, e2, e3, e4, e5, e6, e7, e8⟩ := h1.2.2.2.2.2.2.1 i hi
        exact ⟨a1, b1, f1, y, e1, e2, e3, e4, e5, hy, e7, by omega⟩
      · rw [va_up_ne _ _ e]; exact h1.2.2.2.2.2.2.1 i hi
    · by_cases e : i = j
      · subst e; rw [va_up_self]; exact h3.2.2 i hi
      · rw [va_up_ne _ _ e]; exact h3.2.2 i hi
  · exact h
theorem ia_treaty {c f t q : Int32} (h : IA C tr Y) : IA (tTr C tr k a c f t q).1 (tTr C tr k a c f t q).2 Y := by
  unfold tTr
  split
  · rename_i ok
    unfold coAdd
    split
    · rename_i c6
      have c6' : C.2.2.2.2.2.2.1 < 6 := c6
      obtain ⟨h1, h2, h3, h4, h5, h6⟩ := h
      have hn := inv_n h1
      unfold okTr at ok
      simp only [Bool.and_eq_true, decide_eq_true_eq] at ok
      obtain ⟨⟨⟨⟨⟨⟨o1, o2⟩, o3⟩, o4⟩, o5⟩, o6⟩, o7⟩ := ok
      obtain ⟨jk, hjk, rfl⟩ := wi_nat 0 5 o1 rfl rfl (by decide)
      obtain ⟨jq, hjq, rfl⟩ := wi_nat 0 20 o2 rfl rfl (by decide)
      obtain ⟨ja, hja, rfl⟩ := cell_nat o3 hn
      obtain ⟨jc, hjc, rfl⟩ := cell_nat o4 hn
      obtain ⟨jf, hjf, rfl⟩ := wi_nat 0 99 o6 rfl rfl (by decide)
      obtain ⟨jt, hjt, rfl⟩ := wi_nat 0 99 o7 rfl rfl (by decide)
      rw [nI_leI (by omega) (by omega)] at o5
      rw [nI_clamp (by omega)]
      show IA (C.1, C.2.1, coHt C, coWo C, coTn C, coWn C, C.2.2.2.2.2.2.1 + 1, C.2.2.2.2.2.2.2) (va_up tr C.2.2.2.2.2.2.1 (jk, nI jk, nI ja, nI jc, nI jf, nI jt, nI jq, kCosts jk (nI jq))) Y
      refine ⟨⟨h1.1, h1.2.1, c6', h1.2.2.2.1, fun i hi => ?_, h1.2.2.2.2.2.1, fun i hi => ?_, h1.2.2.2.2.2.2.2⟩, ⟨h2.1, fun i hi => h2.2 i ?_⟩, ⟨h3.1, h3.2.1, fun i hi => ?_⟩, h4, h5, h6⟩
      · by_cases e : i = C.2.2.2.2.2.2.1
        · subst e; rw [va_up_self]; exact ⟨show jk < 6 by omega, rfl, rfl⟩
        · rw [va_up_ne _ _ e]; exact h1.2.2.2.2.1 i hi
      · by_cases e : i = C.2.2.2.2.2.2.1
        · subst e; rw [va_up_self]; exact ⟨ja, jc, jf, jt, rfl, rfl, o5, hjc, rfl, rfl, by omega, by omega⟩
        · rw [va_up_ne _ _ e]
          have hi2 : i < C.2.2.2.2.2.2.1 + 1 := hi
          exact h1.2.2.2.2.2.2.1 i (by omega)
      · have hi2 : C.2.2.2.2.2.2.1 + 1 ≤ i := hi
        omega
      · by_cases e : i = C.2.2.2.2.2.2.1
        · subst e; rw [va_up_self]; exact ⟨jq, rfl, hjq.2⟩
        · rw [va_up_ne _ _ e]
          have hi2 : i < C.2.2.2.2.2.2.1 + 1 := hi
          exact h3.2.2 i (by omega)
    · exact h
  · exact h
theorem ia_0 {j : Nat} (hj : 1 ≤ j ∧ j ≤ 8) (ht : ∀ i, i < 6 → (tr i).1 < 6 ∧ (tr i).2.1 = nI (tr i).1 ∧ tCosts (tr i) = kCosts (tr i).1 (tPrice (tr i))) : IA (co0 j C) tr yr0 := by
  refine ⟨⟨hj, ⟨4, rfl, by decide, by decide⟩, Nat.zero_le _, Nat.zero_le _, ht, fun x _ => ⟨0, rfl, by decide⟩, fun i hi => absurd hi (Nat.not_lt_zero _), ⟨0, rfl, by decide⟩⟩, ⟨fun x _ _ => ?_, fun i _ => ?_⟩, ⟨⟨50, rfl, by decide⟩, fun x _ => ⟨10, rfl, by decide⟩, fun i hi => absurd hi (Nat.not_lt_zero _)⟩, (fun j hj => absurd hj (Nat.not_lt_zero _)), ⟨fun x _ => ⟨2, rfl, by decide⟩, fun x _ => ⟨3, rfl, by decide⟩, fun x _ => ⟨0, rfl, by decide⟩⟩, ⟨0, rfl, by decide⟩⟩
  · show decide ((3 : Int32) ≤ 0) = false; decide
  · show (0 : Int32).toBitVec.getLsbD i = false
    rw [show (0 : Int32).toBitVec = 0#32 from rfl]; simp
theorem ia_coast (h : IA C tr Y) : IA (tCo n C Y).1 tr (tCo n C Y).2 := by
  unfold tCo
  split
  · rename_i c
    obtain ⟨j, hj, rfl⟩ := wi_nat 1 8 c rfl rfl (by decide)
    rw [nI_clamp (by omega)]
    exact ia_0 hj h.1.2.2.2.2.1
  · exact h
theorem dike_run {C : CoV} {fl : Int32} {Y : YrV} (h : ∀ x, x < 8 → ∃ k : Nat, Y.2.2.2.1 x = nI k ∧ k ≤ 9) : ∀ {x : Nat}, ∀ z, z < 8 → ∃ k : Nat, (coRun C fl Y x).1.2.2.2.1 z = nI k ∧ k ≤ 9
  | 0, z, hz => h z hz
  | x + 1, z, hz => by
    have ih := dike_run (C := C) (fl := fl) h (x := x)
    rw [coRun]
    split
    · show ∃ k : Nat, (if 0 < (coRun C fl Y x).1.2.2.2.1 x then upd (coRun C fl Y x).1.2.2.2.1 x ((coRun C fl Y x).1.2.2.2.1 x - 1) else (coRun C fl Y x).1.2.2.2.1) z = nI k ∧ k ≤ 9
      split
      · rename_i hp
        by_cases e : z = x
        · subst e
          obtain ⟨k, hk, hb⟩ := ih z hz
          rw [hk] at hp
          have hk1 : 1 ≤ k := by
            apply Classical.byContradiction
            intro q
            have : k = 0 := by omega
            subst this
            exact absurd hp (by decide)
          refine ⟨k - 1, ?_, by omega⟩
          rw [pk_us, hk]
          exact pk_sub (b := 1) hk1
        · rw [pk_un e]; exact ih z hz
      · exact ih z hz
    · split
      · exact ih z hz
      · exact ih z hz
theorem ia_year {q : Int32} {y : Nat} (h : IA C tr Y) (hy : Y.1 = nI y) (hb : y < 909) : IA C tr (coYear C tr Y q) := by
  obtain ⟨h1, h2, h3, h4, h5, h6⟩ := h
  have ey : (coYear C tr Y q).1 = nI (y + 1) := by rw [coYear_y, hy]; exact nI_s _
  refine ⟨inv_at h1 ey (by omega), invY_year h2 (inv_tc h1), invN_year h1 h3, h4, ⟨h5.1, h5.2.1, ?_⟩, ⟨y + 1, ey, by omega⟩⟩
  intro x hx
  show ∃ k : Nat, (coRun C (coFl C tr Y q) (coPay tr Y (coTc C)) (coN C)).1.2.2.2.1 x = nI k ∧ k ≤ 9
  refine dike_run ?_ x hx
  rw [coPay_r]
  exact h5.2.2
end IAX
