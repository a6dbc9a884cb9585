theorem hasB_or {s : Int32} {t i : Nat} (ht : t < 16) (hi : i < 16) : hasB (s ||| bit t) i = (hasB s i || decide (i = t)) := by
  rw [hasB_bv hi, hasB_bv hi, Int32.toBitVec_or, BitVec.getLsbD_or, bit_bv ht, BitVec.getLsbD_twoPow]
  congr 1
  have : i < 32 := by omega
  simp [this, eq_comm]
  omega
theorem inv_tc {C : CoV} {tr : Nat → TrV} {Y : YrV} (h : Inv C tr Y) : C.2.2.2.2.2.2.1 ≤ 6 := h.2.2.1
theorem inv_dc {C : CoV} {tr : Nat → TrV} {Y : YrV} (h : Inv C tr Y) : C.2.2.2.2.2.2.2.1 ≤ 6 := h.2.2.2.1
theorem inv_n {C : CoV} {tr : Nat → TrV} {Y : YrV} (h : Inv C tr Y) : C.1 ≤ 8 := h.1.2
theorem inv_kd {C : CoV} {tr : Nat → TrV} {Y : YrV} (h : Inv C tr Y) : ∀ i, i < 6 → (tr i).1 < 6 := fun i hi => (h.2.2.2.2.1 i hi).1
theorem inv_cs {C : CoV} {tr : Nat → TrV} {Y : YrV} (h : Inv C tr Y) {i : Nat} (hi : i < 6) : kCosts (tr i).1 (tr i).2.2.2.2.2.2.1 = tCosts (tr i) := (h.2.2.2.2.1 i hi).2.2.symm
theorem inv_tn {C : CoV} {tr : Nat → TrV} {Y : YrV} (h : Inv C tr Y) {x : Nat} (hx : x < 8) : ∃ t : Nat, C.2.2.2.2.1 x = nI t ∧ t < 3 := h.2.2.2.2.2.1 x hx
theorem inv_tr {C : CoV} {tr : Nat → TrV} {Y : YrV} (h : Inv C tr Y) {i : Nat} (hi : i < C.2.2.2.2.2.2.1) : ∃ a b f u : Nat, tFrom (tr i) = nI a ∧ tTo (tr i) = nI b ∧ a ≤ b ∧ b < C.1 ∧ tFirst (tr i) = nI f ∧ tTill (tr i) = nI u ∧ f < 2 ^ 20 ∧ u < 2 ^ 20 := h.2.2.2.2.2.2.1 i hi
theorem inv_y {C : CoV} {tr : Nat → TrV} {Y : YrV} (h : Inv C tr Y) : ∃ y : Nat, y < 2 ^ 31 ∧ Y.1 = nI y := by
  obtain ⟨y, h1, h2⟩ := h.2.2.2.2.2.2.2
  exact ⟨y, by omega, h1⟩
theorem rem8 {j : Nat} (h : j < 2 ^ 31) : nI j - nI j / 8 * 8 = nI (j % 8) := pk_rem (d := 8) h (by decide) (by decide)
theorem rem2 {j : Nat} (h : j < 2 ^ 31) : nI j - nI j / 2 * 2 = nI (j % 2) := pk_rem (d := 2) h (by decide) (by decide)
theorem and7 {j : Nat} (h : j < 2 ^ 31) : (nI j &&& 7).toNatClampNeg = j % 8 := by
  rw [pk_andN (m := 7) (by omega) 3 (by decide), nI_clamp (by omega)]
theorem and1 {j : Nat} (h : j < 2 ^ 31) : nI j &&& 1 = nI (j % 2) := pk_andN (m := 1) (by omega) 1 (by decide)
theorem kH_a {k : Nat} {sp : Bool} (h : k = 1 ∨ k = 4) : nI 11 = kHolds k sp := by rcases h with rfl | rfl <;> rfl
theorem kH_b {k : Nat} {sp : Bool} (h : k = 2) (h2 : sp = true) : nI 15 = kHolds k sp := by subst h; rw [h2]; rfl
theorem kH_c {k : Nat} {sp : Bool} (h : k = 5) : nI 4 = kHolds k sp := by subst h; exact (by decide : nI 4 = nI 8 / nI 2)
theorem kH_d {k : Nat} {sp : Bool} (h6 : k < 6) (h1 : ¬ k = 1) (h4 : ¬ k = 4) (h5 : ¬ k = 5) (h2 : ¬ k = 2 ∨ sp = false) : nI 8 = kHolds k sp := by
  rcases (show k = 0 ∨ k = 2 ∨ k = 3 by omega) with rfl | rfl | rfl
  · rfl
  · rcases h2 with h2 | h2
    · exact absurd rfl h2
    · rw [h2]; rfl
  · rfl
theorem kC_5 {p : Int32} : (p + 2) / 2 = kCosts 5 p := by
  show _ = (p + 1 + 1) / 2
  rw [Int32.add_assoc]; rfl
theorem kC_0 {k : Nat} {p : Int32} (h6 : k < 6) (h3 : ¬ k = 3) (h4 : ¬ k = 4) (h5 : ¬ k = 5) : p = kCosts k p := by
  rcases (show k = 0 ∨ k = 1 ∨ k = 2 by omega) with rfl | rfl | rfl <;> rfl
theorem kD_0 {k : Nat} {c z : Int32} (h6 : k < 6) (h3 : ¬ k = 3) (h5 : ¬ k = 5) : c = kDue k c z := by
  rcases (show k = 0 ∨ k = 1 ∨ k = 2 ∨ k = 4 by omega) with rfl | rfl | rfl | rfl <;> rfl
theorem kD_a {k j : Nat} {c : Int32} (hk : k = 3 ∨ k = 5) (hj : j < 2 ^ 31) (h : j % 2 = 1) : 2 * c = kDue k c (nI j) := by
  have : kDueA c (nI j) = 2 * c := by unfold kDueA; rw [and1 hj, h]; exact if_pos rfl
  rcases hk with rfl | rfl <;> exact this.symm
theorem kD_b {k j : Nat} {c : Int32} (hk : k = 3 ∨ k = 5) (hj : j < 2 ^ 31) (h : ¬ j % 2 = 1) : nI 0 = kDue k c (nI j) := by
  have : kDueA c (nI j) = 0 := by
    unfold kDueA
    rw [and1 hj, show j % 2 = 0 by omega]; exact if_neg (by decide)
  rcases hk with rfl | rfl <;> exact this.symm
theorem runs_eq {C : CoV} {tr : Nat → TrV} {Y : YrV} (h : Inv C tr Y) {i : Nat} (hi : i < C.2.2.2.2.2.2.1) {z : Int32} : wi z (tr i).2.2.2.2.1 ((tr i).2.2.2.2.2.1 - 1) = trRuns (tr i) z := by
  obtain ⟨a, b, f, u, -, -, -, -, hf, hu, hf2, hu2⟩ := inv_tr h hi
  unfold wi trRuns
  congr 1
  have hu' : (tr i).2.2.2.2.2.1 = nI u := hu
  rw [hu', show tTill (tr i) = nI u from hu]
  have e : (nI u - 1).toInt = (u : Int) - 1 := by
    have := pk_sub_toInt (a := u) (b := 1) (by omega) (by decide)
    exact this
  have e2 : (nI u).toInt = (u : Int) := nI_toInt (by omega)
  rw [decide_eq_decide, Int32.le_iff_toInt_le, Int32.lt_iff_toInt_lt, e, e2]
  omega
theorem Rel_pay {b : Nat → Int32} {C : CoV} {tr : Nat → TrV} {Y : YrV} {pc : Nat} {P : Nat → YrV} {t0 : Nat} (h : Rel b C tr Y pc P) (htc : C.2.2.2.2.2.2.1 ≤ 6) (hdc : C.2.2.2.2.2.2.2.1 ≤ 6) (h0 : t0 < C.2.2.2.2.2.2.1) (hb : yrBr Y t0 = false) : Rel (upd b (55 + 7 * t0 + 6) (nI 0)) C tr Y pc P := by
  refine ⟨⟨?_, ?_, ?_, ?_, ?_, ?_, ?_⟩, fun k hk => ?_, fun x hx => ⟨?_, ?_, ?_, ?_, ?_⟩, fun t ht => ⟨?_, ?_, ?_, ?_, ?_, ?_, ?_⟩, fun j hj => ⟨?_, ?_, ?_⟩, fun q hq => ⟨?_, ?_, fun x hx => ⟨?_, ?_⟩, fun t ht => ?_⟩⟩
  · exact (pk_un (by omega)).trans (h.1.1)
  · exact (pk_un (by omega)).trans (h.1.2.1)
  · exact (pk_un (by omega)).trans (h.1.2.2.1)
  · exact (pk_un (by omega)).trans (h.1.2.2.2.1)
  · exact (pk_un (by omega)).trans (h.1.2.2.2.2.1)
  · exact (pk_un (by omega)).trans (h.1.2.2.2.2.2.1)
  · exact (pk_un (by omega)).trans (h.1.2.2.2.2.2.2)
  · exact (pk_un (by omega)).trans (h.2.1 k hk)
  · exact (pk_un (by omega)).trans ((h.2.2.1 x hx).1)
  · exact (pk_un (by omega)).trans ((h.2.2.1 x hx).2.1)
  · exact (pk_un (by omega)).trans ((h.2.2.1 x hx).2.2.1)
  · exact (pk_un (by omega)).trans ((h.2.2.1 x hx).2.2.2.1)
  · exact (pk_un (by omega)).trans ((h.2.2.1 x hx).2.2.2.2)
  · have ht2 : t < C.2.2.2.2.2.2.1 := ht; exact (pk_un (by omega)).trans ((h.2.2.2.1 t ht).1)
  · have ht2 : t < C.2.2.2.2.2.2.1 := ht; exact (pk_un (by omega)).trans ((h.2.2.2.1 t ht).2.1)
  · have ht2 : t < C.2.2.2.2.2.2.1 := ht; exact (pk_un (by omega)).trans ((h.2.2.2.1 t ht).2.2.1)
  · have ht2 : t < C.2.2.2.2.2.2.1 := ht; exact (pk_un (by omega)).trans ((h.2.2.2.1 t ht).2.2.2.1)
  · have ht2 : t < C.2.2.2.2.2.2.1 := ht; exact (pk_un (by omega)).trans ((h.2.2.2.1 t ht).2.2.2.2.1)
  · have ht2 : t < C.2.2.2.2.2.2.1 := ht; exact (pk_un (by omega)).trans ((h.2.2.2.1 t ht).2.2.2.2.2.1)
  · have ht2 : t < C.2.2.2.2.2.2.1 := ht; by_cases e : t = t0
    · subst e; rw [pk_us, hb]; rfl
    · exact (pk_un (by omega)).trans ((h.2.2.2.1 t ht).2.2.2.2.2.2)
  · have hj2 : j < C.2.2.2.2.2.2.2.1 := hj; exact (pk_un (by omega)).trans ((h.2.2.2.2.1 j hj).1)
  · have hj2 : j < C.2.2.2.2.2.2.2.1 := hj; exact (pk_un (by omega)).trans ((h.2.2.2.2.1 j hj).2.1)
  · have hj2 : j < C.2.2.2.2.2.2.2.1 := hj; exact (pk_un (by omega)).trans ((h.2.2.2.2.1 j hj).2.2)
  · exact (pk_un (by omega)).trans ((h.2.2.2.2.2 q hq).1)
  · exact (pk_un (by omega)).trans ((h.2.2.2.2.2 q hq).2.1)
  · exact (pk_un (by omega)).trans (((h.2.2.2.2.2 q hq).2.2.1 x hx).1)
  · exact (pk_un (by omega)).trans (((h.2.2.2.2.2 q hq).2.2.1 x hx).2)
  · have ht2 : t < C.2.2.2.2.2.2.1 := ht; exact (pk_un (by omega)).trans ((h.2.2.2.2.2 q hq).2.2.2 t ht)
theorem Rel_bells {b : Nat → Int32} {C : CoV} {tr : Nat → TrV} {Y : YrV} {pc : Nat} {P : Nat → YrV} {v : Int32} (h : Rel b C tr Y pc P) (htc : C.2.2.2.2.2.2.1 ≤ 6) (hdc : C.2.2.2.2.2.2.2.1 ≤ 6)  : Rel (upd b (2) (v)) C tr (Y.1, v, Y.2.2) pc P := by
  refine ⟨⟨?_, ?_, ?_, ?_, ?_, ?_, ?_⟩, fun k hk => ?_, fun x hx => ⟨?_, ?_, ?_, ?_, ?_⟩, fun t ht => ⟨?_, ?_, ?_, ?_, ?_, ?_, ?_⟩, fun j hj => ⟨?_, ?_, ?_⟩, fun q hq => ⟨?_, ?_, fun x hx => ⟨?_, ?_⟩, fun t ht => ?_⟩⟩
  · exact (pk_un (by omega)).trans (h.1.1)
  · exact (pk_un (by omega)).trans (h.1.2.1)
  · exact pk_us
  · exact (pk_un (by omega)).trans (h.1.2.2.2.1)
  · exact (pk_un (by omega)).trans (h.1.2.2.2.2.1)
  · exact (pk_un (by omega)).trans (h.1.2.2.2.2.2.1)
  · exact (pk_un (by omega)).trans (h.1.2.2.2.2.2.2)
  · exact (pk_un (by omega)).trans (h.2.1 k hk)
  · exact (pk_un (by omega)).trans ((h.2.2.1 x hx).1)
  · exact (pk_un (by omega)).trans ((h.2.2.1 x hx).2.1)
  · exact (pk_un (by omega)).trans ((h.2.2.1 x hx).2.2.1)
  · exact (pk_un (by omega)).trans ((h.2.2.1 x hx).2.2.2.1)
  · exact (pk_un (by omega)).trans ((h.2.2.1 x hx).2.2.2.2)
  · have ht2 : t < C.2.2.2.2.2.2.1 := ht; exact (pk_un (by omega)).trans ((h.2.2.2.1 t ht).1)
  · have ht2 : t < C.2.2.2.2.2.2.1 := ht; exact (pk_un (by omega)).trans ((h.2.2.2.1 t ht).2.1)
  · have ht2 : t < C.2.2.2.2.2.2.1 := ht; exact (pk_un (by omega)).trans ((h.2.2.2.1 t ht).2.2.1)
  · have ht2 : t < C.2.2.2.2.2.2.1 := ht; exact (pk_un (by omega)).trans ((h.2.2.2.1 t ht).2.2.2.1)
  · have ht2 : t < C.2.2.2.2.2.2.1 := ht; exact (pk_un (by omega)).trans ((h.2.2.2.1 t ht).2.2.2.2.1)
  · have ht2 : t < C.2.2.2.2.2.2.1 := ht; exact (pk_un (by omega)).trans ((h.2.2.2.1 t ht).2.2.2.2.2.1)
  · have ht2 : t < C.2.2.2.2.2.2.1 := ht; exact (pk_un (by omega)).trans ((h.2.2.2.1 t ht).2.2.2.2.2.2)
  · have hj2 : j < C.2.2.2.2.2.2.2.1 := hj; exact (pk_un (by omega)).trans ((h.2.2.2.2.1 j hj).1)
  · have hj2 : j < C.2.2.2.2.2.2.2.1 := hj; exact (pk_un (by omega)).trans ((h.2.2.2.2.1 j hj).2.1)
  · have hj2 : j < C.2.2.2.2.2.2.2.1 := hj; exact (pk_un (by omega)).trans ((h.2.2.2.2.1 j hj).2.2)
  · exact (pk_un (by omega)).trans ((h.2.2.2.2.2 q hq).1)
  · exact (pk_un (by omega)).trans ((h.2.2.2.2.2 q hq).2.1)
  · exact (pk_un (by omega)).trans (((h.2.2.2.2.2 q hq).2.2.1 x hx).1)
  · exact (pk_un (by omega)).trans (((h.2.2.2.2.2 q hq).2.2.1 x hx).2)
  · have ht2 : t < C.2.2.2.2.2.2.1 := ht; exact (pk_un (by omega)).trans ((h.2.2.2.2.2 q hq).2.2.2 t ht)
theorem Rel_brk {b : Nat → Int32} {C : CoV} {tr : Nat → TrV} {Y : YrV} {pc : Nat} {P : Nat → YrV} {t0 : Nat} (h : Rel b C tr Y pc P) (htc : C.2.2.2.2.2.2.1 ≤ 6) (hdc : C.2.2.2.2.2.2.2.1 ≤ 6) (h0 : t0 < C.2.2.2.2.2.2.1) : Rel (upd b (55 + 7 * t0 + 6) (nI 1)) C tr (Y.1, Y.2.1, Y.2.2.1 ||| bit t0, Y.2.2.2) pc P := by
  refine ⟨⟨?_, ?_, ?_, ?_, ?_, ?_, ?_⟩, fun k hk => ?_, fun x hx => ⟨?_, ?_, ?_, ?_, ?_⟩, fun t ht => ⟨?_, ?_, ?_, ?_, ?_, ?_, ?_⟩, fun j hj => ⟨?_, ?_, ?_⟩, fun q hq => ⟨?_, ?_, fun x hx => ⟨?_, ?_⟩, fun t ht => ?_⟩⟩
  · exact (pk_un (by omega)).trans (h.1.1)
  · exact (pk_un (by omega)).trans (h.1.2.1)
  · exact (pk_un (by omega)).trans (h.1.2.2.1)
  · exact (pk_un (by omega)).trans (h.1.2.2.2.1)
  · exact (pk_un (by omega)).trans (h.1.2.2.2.2.1)
  · exact (pk_un (by omega)).trans (h.1.2.2.2.2.2.1)
  · exact (pk_un (by omega)).trans (h.1.2.2.2.2.2.2)
  · exact (pk_un (by omega)).trans (h.2.1 k hk)
  · exact (pk_un (by omega)).trans ((h.2.2.1 x hx).1)
  · exact (pk_un (by omega)).trans ((h.2.2.1 x hx).2.1)
  · exact (pk_un (by omega)).trans ((h.2.2.1 x hx).2.2.1)
  · exact (pk_un (by omega)).trans ((h.2.2.1 x hx).2.2.2.1)
  · exact (pk_un (by omega)).trans ((h.2.2.1 x hx).2.2.2.2)
  · have ht2 : t < C.2.2.2.2.2.2.1 := ht; exact (pk_un (by omega)).trans ((h.2.2.2.1 t ht).1)
  · have ht2 : t < C.2.2.2.2.2.2.1 := ht; exact (pk_un (by omega)).trans ((h.2.2.2.1 t ht).2.1)
  · have ht2 : t < C.2.2.2.2.2.2.1 := ht; exact (pk_un (by omega)).trans ((h.2.2.2.1 t ht).2.2.1)
  · have ht2 : t < C.2.2.2.2.2.2.1 := ht; exact (pk_un (by omega)).trans ((h.2.2.2.1 t ht).2.2.2.1)
  · have ht2 : t < C.2.2.2.2.2.2.1 := ht; exact (pk_un (by omega)).trans ((h.2.2.2.1 t ht).2.2.2.2.1)
  · have ht2 : t < C.2.2.2.2.2.2.1 := ht; exact (pk_un (by omega)).trans ((h.2.2.2.1 t ht).2.2.2.2.2.1)
  · have ht2 : t < C.2.2.2.2.2.2.1 := ht; show _ = bI (hasB (Y.2.2.1 ||| bit t0) t)
    rw [hasB_or (by omega) (by omega)]
    by_cases e : t = t0
    · subst e; rw [pk_us, decide_eq_true rfl, Bool.or_true]; rfl
    · rw [decide_eq_false e, Bool.or_false]; exact (pk_un (by omega)).trans ((h.2.2.2.1 t ht).2.2.2.2.2.2)
  · have hj2 : j < C.2.2.2.2.2.2.2.1 := hj; exact (pk_un (by omega)).trans ((h.2.2.2.2.1 j hj).1)
  · have hj2 : j < C.2.2.2.2.2.2.2.1 := hj; exact (pk_un (by omega)).trans ((h.2.2.2.2.1 j hj).2.1)
  · have hj2 : j < C.2.2.2.2.2.2.2.1 := hj; exact (pk_un (by omega)).trans ((h.2.2.2.2.1 j hj).2.2)
  · exact (pk_un (by omega)).trans ((h.2.2.2.2.2 q hq).1)
  · exact (pk_un (by omega)).trans ((h.2.2.2.2.2 q hq).2.1)
  · exact (pk_un (by omega)).trans (((h.2.2.2.2.2 q hq).2.2.1 x hx).1)
  · exact (pk_un (by omega)).trans (((h.2.2.2.2.2 q hq).2.2.1 x hx).2)
  · have ht2 : t < C.2.2.2.2.2.2.1 := ht; exact (pk_un (by omega)).trans ((h.2.2.2.2.2 q hq).2.2.2 t ht)
theorem Rel_year {b : Nat → Int32} {C : CoV} {tr : Nat → TrV} {Y : YrV} {pc : Nat} {P : Nat → YrV} {v : Int32} (h : Rel b C tr Y pc P) (htc : C.2.2.2.2.2.2.1 ≤ 6) (hdc : C.2.2.2.2.2.2.2.1 ≤ 6)  : Rel (upd b (1) (v)) C tr (v, Y.2) pc P := by
  refine ⟨⟨?_, ?_, ?_, ?_, ?_, ?_, ?_⟩, fun k hk => ?_, fun x hx => ⟨?_, ?_, ?_, ?_, ?_⟩, fun t ht => ⟨?_, ?_, ?_, ?_, ?_, ?_, ?_⟩, fun j hj => ⟨?_, ?_, ?_⟩, fun q hq => ⟨?_, ?_, fun x hx => ⟨?_, ?_⟩, fun t ht => ?_⟩⟩
  · exact (pk_un (by omega)).trans (h.1.1)
  · exact pk_us
  · exact (pk_un (by omega)).trans (h.1.2.2.1)
  · exact (pk_un (by omega)).trans (h.1.2.2.2.1)
  · exact (pk_un (by omega)).trans (h.1.2.2.2.2.1)
  · exact (pk_un (by omega)).trans (h.1.2.2.2.2.2.1)
  · exact (pk_un (by omega)).trans (h.1.2.2.2.2.2.2)
  · exact (pk_un (by omega)).trans (h.2.1 k hk)
  · exact (pk_un (by omega)).trans ((h.2.2.1 x hx).1)
  · exact (pk_un (by omega)).trans ((h.2.2.1 x hx).2.1)
  · exact (pk_un (by omega)).trans ((h.2.2.1 x hx).2.2.1)
  · exact (pk_un (by omega)).trans ((h.2.2.1 x hx).2.2.2.1)
  · exact (pk_un (by omega)).trans ((h.2.2.1 x hx).2.2.2.2)
  · have ht2 : t < C.2.2.2.2.2.2.1 := ht; exact (pk_un (by omega)).trans ((h.2.2.2.1 t ht).1)
  · have ht2 : t < C.2.2.2.2.2.2.1 := ht; exact (pk_un (by omega)).trans ((h.2.2.2.1 t ht).2.1)
  · have ht2 : t < C.2.2.2.2.2.2.1 := ht; exact (pk_un (by omega)).trans ((h.2.2.2.1 t ht).2.2.1)
  · have ht2 : t < C.2.2.2.2.2.2.1 := ht; exact (pk_un (by omega)).trans ((h.2.2.2.1 t ht).2.2.2.1)
  · have ht2 : t < C.2.2.2.2.2.2.1 := ht; exact (pk_un (by omega)).trans ((h.2.2.2.1 t ht).2.2.2.2.1)
  · have ht2 : t < C.2.2.2.2.2.2.1 := ht; exact (pk_un (by omega)).trans ((h.2.2.2.1 t ht).2.2.2.2.2.1)
  · have ht2 : t < C.2.2.2.2.2.2.1 := ht; exact (pk_un (by omega)).trans ((h.2.2.2.1 t ht).2.2.2.2.2.2)
  · have hj2 : j < C.2.2.2.2.2.2.2.1 := hj; exact (pk_un (by omega)).trans ((h.2.2.2.2.1 j hj).1)
  · have hj2 : j < C.2.2.2.2.2.2.2.1 := hj; exact (pk_un (by omega)).trans ((h.2.2.2.2.1 j hj).2.1)
  · have hj2 : j < C.2.2.2.2.2.2.2.1 := hj; exact (pk_un (by omega)).trans ((h.2.2.2.2.1 j hj).2.2)
  · exact (pk_un (by omega)).trans ((h.2.2.2.2.2 q hq).1)
  · exact (pk_un (by omega)).trans ((h.2.2.2.2.2 q hq).2.1)
  · exact (pk_un (by omega)).trans (((h.2.2.2.2.2 q hq).2.2.1 x hx).1)
  · exact (pk_un (by omega)).trans (((h.2.2.2.2.2 q hq).2.2.1 x hx).2)
  · have ht2 : t < C.2.2.2.2.2.2.1 := ht; exact (pk_un (by omega)).trans ((h.2.2.2.2.2 q hq).2.2.2 t ht)
theorem Rel_dike {b : Nat → Int32} {C : CoV} {tr : Nat → TrV} {Y : YrV} {pc : Nat} {P : Nat → YrV} {x0 : Nat} {v : Int32} (h : Rel b C tr Y pc P) (htc : C.2.2.2.2.2.2.1 ≤ 6) (hdc : C.2.2.2.2.2.2.2.1 ≤ 6) (h0 : x0 < 8) : Rel (upd b (15 + 5 * x0 + 3) (v)) C tr (Y.1, Y.2.1, Y.2.2.1, upd Y.2.2.2.1 x0 v, Y.2.2.2.2) pc P := by
  refine ⟨⟨?_, ?_, ?_, ?_, ?_, ?_, ?_⟩, fun k hk => ?_, fun x hx => ⟨?_, ?_, ?_, ?_, ?_⟩, fun t ht => ⟨?_, ?_, ?_, ?_, ?_, ?_, ?_⟩, fun j hj => ⟨?_, ?_, ?_⟩, fun q hq => ⟨?_, ?_, fun x hx => ⟨?_, ?_⟩, fun t ht => ?_⟩⟩
  · exact (pk_un (by omega)).trans (h.1.1)
  · exact (pk_un (by omega)).trans (h.1.2.1)
  · exact (pk_un (by omega)).trans (h.1.2.2.1)
  · exact (pk_un (by omega)).trans (h.1.2.2.2.1)
  · exact (pk_un (by omega)).trans (h.1.2.2.2.2.1)
  · exact (pk_un (by omega)).trans (h.1.2.2.2.2.2.1)
  · exact (pk_un (by omega)).trans (h.1.2.2.2.2.2.2)
  · exact (pk_un (by omega)).trans (h.2.1 k hk)
  · exact (pk_un (by omega)).trans ((h.2.2.1 x hx).1)
  · exact (pk_un (by omega)).trans ((h.2.2.1 x hx).2.1)
  · exact (pk_un (by omega)).trans ((h.2.2.1 x hx).2.2.1)
  · by_cases e : x = x0
    · subst e; rw [pk_us]; exact pk_us.symm
    · exact (pk_un (by omega)).trans (((h.2.2.1 x hx).2.2.2.1).trans (pk_un e).symm)
  · exact (pk_un (by omega)).trans ((h.2.2.1 x hx).2.2.2.2)
  · have ht2 : t < C.2.2.2.2.2.2.1 := ht; exact (pk_un (by omega)).trans ((h.2.2.2.1 t ht).1)
  · have ht2 : t < C.2.2.2.2.2.2.1 := ht; exact (pk_un (by omega)).trans ((h.2.2.2.1 t ht).2.1)
  · have ht2 : t < C.2.2.2.2.2.2.1 := ht; exact (pk_un (by omega)).trans ((h.2.2.2.1 t ht).2.2.1)
  · have ht2 : t < C.2.2.2.2.2.2.1 := ht; exact (pk_un (by omega)).trans ((h.2.2.2.1 t ht).2.2.2.1)
  · have ht2 : t < C.2.2.2.2.2.2.1 := ht; exact (pk_un (by omega)).trans ((h.2.2.2.1 t ht).2.2.2.2.1)
  · have ht2 : t < C.2.2.2.2.2.2.1 := ht; exact (pk_un (by omega)).trans ((h.2.2.2.1 t ht).2.2.2.2.2.1)
  · have ht2 : t < C.2.2.2.2.2.2.1 := ht; exact (pk_un (by omega)).trans ((h.2.2.2.1 t ht).2.2.2.2.2.2)
  · have hj2 : j < C.2.2.2.2.2.2.2.1 := hj; exact (pk_un (by omega)).trans ((h.2.2.2.2.1 j hj).1)
  · have hj2 : j < C.2.2.2.2.2.2.2.1 := hj; exact (pk_un (by omega)).trans ((h.2.2.2.2.1 j hj).2.1)
  · have hj2 : j < C.2.2.2.2.2.2.2.1 := hj; exact (pk_un (by omega)).trans ((h.2.2.2.2.1 j hj).2.2)
  · exact (pk_un (by omega)).trans ((h.2.2.2.2.2 q hq).1)
  · exact (pk_un (by omega)).trans ((h.2.2.2.2.2 q hq).2.1)
  · exact (pk_un (by omega)).trans (((h.2.2.2.2.2 q hq).2.2.1 x hx).1)
  · exact (pk_un (by omega)).trans (((h.2.2.2.2.2 q hq).2.2.1 x hx).2)
  · have ht2 : t < C.2.2.2.2.2.2.1 := ht; exact (pk_un (by omega)).trans ((h.2.2.2.2.2 q hq).2.2.2 t ht)
theorem Rel_fl {b : Nat → Int32} {C : CoV} {tr : Nat → TrV} {Y : YrV} {pc : Nat} {P : Nat → YrV} {x0 : Nat} {v : Int32} (h : Rel b C tr Y pc P) (htc : C.2.2.2.2.2.2.1 ≤ 6) (hdc : C.2.2.2.2.2.2.2.1 ≤ 6) (h0 : x0 < 8) : Rel (upd b (15 + 5 * x0 + 4) (v)) C tr (Y.1, Y.2.1, Y.2.2.1, Y.2.2.2.1, upd Y.2.2.2.2 x0 v) pc P := by
  refine ⟨⟨?_, ?_, ?_, ?_, ?_, ?_, ?_⟩, fun k hk => ?_, fun x hx => ⟨?_, ?_, ?_, ?_, ?_⟩, fun t ht => ⟨?_, ?_, ?_, ?_, ?_, ?_, ?_⟩, fun j hj => ⟨?_, ?_, ?_⟩, fun q hq => ⟨?_, ?_, fun x hx => ⟨?_, ?_⟩, fun t ht => ?_⟩⟩
  · exact (pk_un (by omega)).trans (h.1.1)
  · exact (pk_un (by omega)).trans (h.1.2.1)
  · exact (pk_un (by omega)).trans (h.1.2.2.1)
  · exact (pk_un (by omega)).trans (h.1.2.2.2.1)
  · exact (pk_un (by omega)).trans (h.1.2.2.2.2.1)
  · exact (pk_un (by omega)).trans (h.1.2.2.2.2.2.1)
  · exact (pk_un (by omega)).trans (h.1.2.2.2.2.2.2)
  · exact (pk_un (by omega)).trans (h.2.1 k hk)
  · exact (pk_un (by omega)).trans ((h.2.2.1 x hx).1)
  · exact (pk_un (by omega)).trans ((h.2.2.1 x hx).2.1)
  · exact (pk_un (by omega)).trans ((h.2.2.1 x hx).2.2.1)
  · exact (pk_un (by omega)).trans ((h.2.2.1 x hx).2.2.2.1)
  · by_cases e : x = x0
    · subst e; rw [pk_us]; exact pk_us.symm
    · exact (pk_un (by omega)).trans (((h.2.2.1 x hx).2.2.2.2).trans (pk_un e).symm)
  · have ht2 : t < C.2.2.2.2.2.2.1 := ht; exact (pk_un (by omega)).trans ((h.2.2.2.1 t ht).1)
  · have ht2 : t < C.2.2.2.2.2.2.1 := ht; exact (pk_un (by omega)).trans ((h.2.2.2.1 t ht).2.1)
  · have ht2 : t < C.2.2.2.2.2.2.1 := ht; exact (pk_un (by omega)).trans ((h.2.2.2.1 t ht).2.2.1)
  · have ht2 : t < C.2.2.2.2.2.2.1 := ht; exact (pk_un (by omega)).trans ((h.2.2.2.1 t ht).2.2.2.1)
  · have ht2 : t < C.2.2.2.2.2.2.1 := ht; exact (pk_un (by omega)).trans ((h.2.2.2.1 t ht).2.2.2.2.1)
  · have ht2 : t < C.2.2.2.2.2.2.1 := ht; exact (pk_un (by omega)).trans ((h.2.2.2.1 t ht).2.2.2.2.2.1)
  · have ht2 : t < C.2.2.2.2.2.2.1 := ht; exact (pk_un (by omega)).trans ((h.2.2.2.1 t ht).2.2.2.2.2.2)
  · have hj2 : j < C.2.2.2.2.2.2.2.1 := hj; exact (pk_un (by omega)).trans ((h.2.2.2.2.1 j hj).1)
  · have hj2 : j < C.2.2.2.2.2.2.2.1 := hj; exact (pk_un (by omega)).trans ((h.2.2.2.2.1 j hj).2.1)
  · have hj2 : j < C.2.2.2.2.2.2.2.1 := hj; exact (pk_un (by omega)).trans ((h.2.2.2.2.1 j hj).2.2)
  · exact (pk_un (by omega)).trans ((h.2.2.2.2.2 q hq).1)
  · exact (pk_un (by omega)).trans ((h.2.2.2.2.2 q hq).2.1)
  · exact (pk_un (by omega)).trans (((h.2.2.2.2.2 q hq).2.2.1 x hx).1)
  · exact (pk_un (by omega)).trans (((h.2.2.2.2.2 q hq).2.2.1 x hx).2)
  · have ht2 : t < C.2.2.2.2.2.2.1 := ht; exact (pk_un (by omega)).trans ((h.2.2.2.2.2 q hq).2.2.2 t ht)
