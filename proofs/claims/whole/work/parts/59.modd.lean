theorem hasB_and {a b : Int32} {x : Nat} (h : x < 16) : hasB (a &&& b) x = (hasB a x && hasB b x) := by
  rw [hasB_bv h, hasB_bv h, hasB_bv h, Int32.toBitVec_and, BitVec.getLsbD_and]
theorem hasB_not {a : Int32} {x : Nat} (h : x < 16) : hasB (a ^^^ -1) x = !hasB a x := by
  rw [hasB_bv h, hasB_bv h, Int32.toBitVec_xor, BitVec.getLsbD_xor, show (-1 : Int32).toBitVec = BitVec.allOnes 32 from by decide, BitVec.getLsbD_allOnes, decide_eq_true (by omega : x < 32), Bool.xor_true]
theorem hasB_lost {Y : YrV} {x : Nat} (hx : x < 8) : ∀ {n : Nat}, n ≤ 8 → hasB (yrLostB Y n) x = (decide (x < n) && yrLost Y x)
  | 0, _ => by rw [show yrLostB Y 0 = 0 from rfl, hasB_0]; simp
  | n + 1, h => by
    rw [yrLostB]
    split
    · rename_i hl
      rw [hasB_or (by omega) (by omega), hasB_lost hx (by omega)]
      by_cases e : x = n
      · subst e; simp [hl]
      · rw [decide_eq_false e, Bool.or_false]
        have : (x < n + 1) = (x < n) := by apply propext; omega
        simp only [this]
    · rename_i hl
      rw [hasB_lost hx (by omega)]
      by_cases e : x = n
      · subst e
        have : yrLost Y x = false := by simpa using hl
        simp [this]
      · have : (x < n + 1) = (x < n) := by apply propext; omega
        simp only [this]
theorem hasB_town {C : CoV} {t : Int32} {x : Nat} (hx : x < 8) : ∀ {n : Nat}, n ≤ 8 → hasB (coTown C t n) x = (decide (x < n) && decide (coTn C x = t))
  | 0, _ => by rw [show coTown C t 0 = 0 from rfl, hasB_0]; simp
  | n + 1, h => by
    rw [coTown]
    split
    · rename_i hl
      rw [hasB_or (by omega) (by omega), hasB_town hx (by omega)]
      by_cases e : x = n
      · subst e; simp [hl]
      · rw [decide_eq_false e, Bool.or_false]
        have : (x < n + 1) = (x < n) := by apply propext; omega
        simp only [this]
    · rename_i hl
      rw [hasB_town hx (by omega)]
      by_cases e : x = n
      · subst e; simp [hl]
      · have : (x < n + 1) = (x < n) := by apply propext; omega
        simp only [this]
theorem hasB_bit {t i : Nat} (ht : t < 16) (hi : i < 16) : hasB (bit t) i = decide (i = t) := by
  have := hasB_or (s := 0) ht hi
  rw [Int32.zero_or, hasB_0, Bool.false_or] at this
  exact this
abbrev wSet (Y : YrV) (q : Int32) : Int32 := q &&& (yrLostB Y 8 ^^^ -1)
theorem wSet_b {Y : YrV} {q : Int32} {x : Nat} (hx : x < 8) : hasB (wSet Y q) x = (hasB q x && !yrLost Y x) := by
  rw [hasB_and (by omega), hasB_not (by omega), hasB_lost hx (Nat.le_refl 8), decide_eq_true hx, Bool.true_and]
theorem wo_1 {C : CoV} {Y : YrV} {q a : Int32} {x : Nat} (hx : x < 8) (ha : a = coWorth C (wSet Y q) x) (h : (hasB q x && !yrLost Y x) = false) : a + 0 = coWorth C (wSet Y q) (x + 1) := by
  rw [coWorth, if_neg (by rw [wSet_b hx, h]; exact Bool.false_ne_true), ← ha, add_zero']
theorem wo_2 {C : CoV} {Y : YrV} {q a : Int32} {x : Nat} (hx : x < 8) (ha : a = coWorth C (wSet Y q) x) (h : hasB q x = true) (h2 : yrLost Y x = false) : a + C.2.2.2.1 x = coWorth C (wSet Y q) (x + 1) := by
  rw [coWorth, if_pos (by rw [wSet_b hx, h, h2]; rfl), ← ha]
def moV (M : MoV) (f : Nat → Int32) (ok : Bool) : Nat → Int32 := if ok = true then f else moRef M f 0
def lostN (Y : YrV) : Nat → Bool
  | 0 => false
  | x + 1 => lostN Y x || yrLost Y x
theorem and_f1 {a b : Bool} (h : a = false) : (a && b) = false := by rw [h]; rfl
theorem and_f2 {a b : Bool} (h : b = true) : (a && !b) = false := by rw [h]; simp
theorem ab_b {T : TrV} {b : Bool} {C : CoV} {Y : YrV} : bI b = abV C T b Y 3 := by simp [abV]
theorem am_eq {b : Nat → Int32} {C : CoV} {tr : Nat → TrV} {Y : YrV} {pc len j : Nat} {P : Nat → YrV} (h : Rel b C tr Y pc P) (hj : j < 7) : b j = amV C Y pc len (nI j) := by
  unfold amV
  rcases (show j = 0 ∨ j = 1 ∨ j = 2 ∨ j = 3 ∨ j = 4 ∨ j = 5 ∨ j = 6 by omega) with rfl | rfl | rfl | rfl | rfl | rfl | rfl
  · rw [if_pos (by decide)]; exact h.n
  · rw [if_neg (by decide), if_pos (by decide)]; exact h.y
  · rw [if_neg (by decide), if_neg (by decide), if_pos (by decide)]; exact h.be
  · rw [if_neg (by decide), if_neg (by decide), if_neg (by decide), if_pos (by decide)]; exact h.mo
  · rw [if_neg (by decide), if_neg (by decide), if_neg (by decide), if_neg (by decide), if_pos (by decide)]; exact h.tc
  · rw [if_neg (by decide), if_neg (by decide), if_neg (by decide), if_neg (by decide), if_neg (by decide), if_pos (by decide)]; exact h.dc
  · rw [if_neg (by decide), if_neg (by decide), if_neg (by decide), if_neg (by decide), if_neg (by decide), if_neg (by decide), if_pos (by decide)]; exact h.np
