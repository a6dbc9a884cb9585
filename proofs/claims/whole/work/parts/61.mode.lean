theorem inv_kk {C : CoV} {tr : Nat → TrV} {Y : YrV} (h : Inv C tr Y) {i : Nat} (hi : i < 6) : nI (tr i).1 = (tr i).2.1 := (h.2.2.2.2.1 i hi).2.1.symm
theorem of_ok {C : CoV} {Y : YrV} {j : Nat} {w r : Int32} (h : stCell C (nI j) = true) (h2 : wi w 0 5 = true) (hj : j < 2 ^ 31) (hr : r = ofV C Y j w) : r = ofR C Y (nI j) w := by
  unfold ofR ofOk
  rw [h, h2, nI_clamp hj]
  exact hr
theorem of_v {C : CoV} {Y : YrV} {j : Nat} : C.2.2.1 j = ofV C Y j 0 ∧ C.2.2.2.1 j = ofV C Y j 1 ∧ C.2.2.2.2.1 j = ofV C Y j 2 ∧ Y.2.2.2.1 j = ofV C Y j 3 ∧ Y.2.2.2.2 j = ofV C Y j 4 ∧ bI (yrLost Y j) = ofV C Y j 5 := by simp [ofV]
theorem ab_ok {C : CoV} {tr : Nat → TrV} {Y : YrV} {j : Nat} {w r : Int32} (h : stTreaty C (nI j) = true) (h2 : wi w 0 4 = true) (hj : j < 2 ^ 31) (hr : r = abV C (tr j) (yrBr Y j) Y w) : r = abR C tr Y (nI j) w := by
  unfold abR abOk
  rw [h, h2, nI_clamp hj]
  exact hr
theorem ab_v {C : CoV} {T : TrV} {b : Bool} {Y : YrV} : T.2.1 = abV C T b Y 0 ∧ tCosts T = abV C T b Y 1 ∧ kHolds T.1 (coSpring C Y.1) = abV C T b Y 2 ∧ bI b = abV C T b Y 3 ∧ T.2.2.2.2.2.1 = abV C T b Y 4 := by simp [abV]
theorem nI_in31 {a b : Nat} (ha : a < 2 ^ 31) (h : nI a = nI b) (hb : b < 2 ^ 31) : a = b := (nI_eq ha hb).mp h
theorem le_hb {C : CoV} {tr : Nat → TrV} {Y : YrV} {i : Nat} (hI : Inv C tr Y) (hi : i < 3) : ∀ x, x < C.1 → ∀ t, C.2.2.2.2.1 x = nI t → t < 16 → hasB (coTown C (nI i) C.1) x = hasB (bit i) t := fun x hx t ht h16 => by
  have hn := inv_n hI
  rw [hasB_town (by omega) hn, decide_eq_true hx, Bool.true_and, hasB_bit (by omega) h16]
  show decide (C.2.2.2.2.1 x = nI i) = _
  rw [ht, decide_eq_decide, nI_eq (by omega) (by omega)]
theorem hasB_bare {C : CoV} {q : Int32} {x t : Nat} (hx : x < C.1) (hn : C.1 ≤ 8) (ht : C.2.2.2.2.1 x = nI t) (h16 : t < 16) : ∀ {k : Nat}, k ≤ 3 → hasB (bareB C q k) x = (decide (t < k) && !hasB q t)
  | 0, _ => by rw [show bareB C q 0 = 0 from rfl, hasB_0]; simp
  | k + 1, h => by
    have key : hasB (coTown C (nI k) C.1) x = decide (t = k) := by
      rw [hasB_town (by omega) hn, decide_eq_true hx, Bool.true_and]
      show decide (C.2.2.2.2.1 x = nI k) = _
      rw [ht, decide_eq_decide, nI_eq (by omega) (by omega)]
    have ih := hasB_bare (q := q) hx hn ht h16 (k := k) (by omega)
    rw [bareB]
    split
    · rename_i hq
      rw [ih]
      by_cases e : t = k
      · subst e; simp [hq]
      · have : (t < k + 1) = (t < k) := by apply propext; omega
        simp only [this]
    · rename_i hq
      rw [hasB_bv (by omega), Int32.toBitVec_or, BitVec.getLsbD_or, ← hasB_bv (by omega), ← hasB_bv (by omega), ih, show hasB (coTown C (nI k) (coN C)) x = decide (t = k) from key]
      by_cases e : t = k
      · subst e
        have : hasB q t = false := by simpa using hq
        simp [this]
      · have : (t < k + 1) = (t < k) := by apply propext; omega
        simp only [this, decide_eq_false e, Bool.or_false]
theorem hasB_7 {q : Int32} {t : Nat} (h : t < 3) : hasB (7 &&& (q ^^^ -1)) t = !hasB q t := by
  rw [hasB_and (by omega), hasB_not (by omega)]
  have : hasB 7 t = true := by rcases (show t = 0 ∨ t = 1 ∨ t = 2 by omega) with rfl | rfl | rfl <;> decide
  rw [this, Bool.true_and]
theorem lo_hb {C : CoV} {tr : Nat → TrV} {Y : YrV} {q : Int32} (hI : Inv C tr Y) : ∀ x, x < C.1 → ∀ t, C.2.2.2.2.1 x = nI t → t < 16 → hasB (bareB C q 3) x = hasB (7 &&& (q ^^^ -1)) t := fun x hx t ht h16 => by
  have hn := inv_n hI
  obtain ⟨t', ht', h3⟩ := inv_tn hI (show x < 8 by omega)
  have e : t = t' := nI_in31 (by omega) (ht.symm.trans ht') (by omega)
  subst e
  rw [hasB_bare hx hn ht h16 (Nat.le_refl 3), hasB_7 h3, decide_eq_true h3, Bool.true_and]
abbrev feS (C : CoV) (i : Nat) (q : Int32) : Int32 := coTown C (nI i) C.1 &&& (bareB C q 3 ^^^ -1)
theorem feS_b {C : CoV} {tr : Nat → TrV} {Y : YrV} {q : Int32} {i x : Nat} (hI : Inv C tr Y) (hi : i < 3) (hx : x < C.1) : hasB (feS C i q) x = (hasB (coTown C (nI i) C.1) x && hasB q i) := by
  have hn := inv_n hI
  obtain ⟨t, ht, h3⟩ := inv_tn hI (show x < 8 by omega)
  rw [hasB_and (by omega), hasB_not (by omega), hasB_bare hx hn ht (by omega) (Nat.le_refl 3), decide_eq_true h3, Bool.true_and, Bool.not_not]
  by_cases e : t = i
  · subst e; rfl
  · have : hasB (coTown C (nI i) C.1) x = false := by
      rw [hasB_town (by omega) hn, decide_eq_true hx, Bool.true_and]
      exact decide_eq_false (fun h => e (nI_in31 (by omega) (ht.symm.trans h) (by omega)))
    rw [this]; rfl
theorem feet_more {Y : YrV} {q : Int32} {n : Nat} (h : ∀ x, n ≤ x → x < 8 → hasB q x = false) : ∀ {k : Nat}, n ≤ k → k ≤ 8 → yrFeet Y q k = yrFeet Y q n
  | 0, h1, _ => by rw [show n = 0 by omega]
  | k + 1, h1, h2 => by
    by_cases e : n = k + 1
    · rw [e]
    · rw [yrFeet, if_neg (by rw [h k (by omega) (by omega)]; exact Bool.false_ne_true)]
      exact feet_more h (by omega) (by omega)
theorem feet_8 {C : CoV} {Y : YrV} {q : Int32} {i : Nat} (hn : C.1 ≤ 8) : yrFeet Y (feS C i q) 8 = yrFeet Y (feS C i q) C.1 := feet_more (fun x h1 h2 => by
  rw [hasB_and (by omega), hasB_town h2 hn, decide_eq_false (by omega : ¬ x < C.1)]; rfl) hn (Nat.le_refl 8)
theorem fe_1 {Y : YrV} {s a : Int32} {x : Nat} (ha : a = yrFeet Y s x) (h : hasB s x = false) : a + 0 = yrFeet Y s (x + 1) := by
  rw [yrFeet, if_neg (by rw [h]; exact Bool.false_ne_true), ← ha, add_zero']
theorem fe_2 {Y : YrV} {s a : Int32} {x : Nat} (ha : a = yrFeet Y s x) (h : hasB s x = true) : a + Y.2.2.2.1 x = yrFeet Y s (x + 1) := by
  rw [yrFeet, if_pos h, ← ha]
theorem mixed_F {b f : Nat → Int32} {k : Nat} {h : Int64} : ∀ {n : Nat}, (∀ i, i < n → b (k + i) = f i) → mixF (fun i => b (k + i)) h n = mixF f h n
  | 0, _ => rfl
  | n + 1, e => by rw [mixF, mixF, mixed_F (fun i hi => e i (by omega)), e n (by omega)]
