theorem lgc_lt {x y : Int64} : lg_cmp x y < 0 ↔ x < y := lg_cmp_lt x y
theorem lgc_gt {x y : Int64} : 0 < lg_cmp x y ↔ y < x := lg_cmp_gt x y
theorem i64_lt {x y : Int32} : x.toInt64 < y.toInt64 ↔ x < y := by
  rw [Int64.lt_iff_toInt_lt, Int32.lt_iff_toInt_lt, Int32.toInt_toInt64, Int32.toInt_toInt64]
theorem bit_bv : ∀ {x : Nat}, x < 16 → (bit x).toBitVec = BitVec.twoPow 32 x
  | 0, _ => by decide
  | 1, _ => by decide
  | 2, _ => by decide
  | 3, _ => by decide
  | 4, _ => by decide
  | 5, _ => by decide
  | 6, _ => by decide
  | 7, _ => by decide
  | 8, _ => by decide
  | 9, _ => by decide
  | 10, _ => by decide
  | 11, _ => by decide
  | 12, _ => by decide
  | 13, _ => by decide
  | 14, _ => by decide
  | 15, _ => by decide
  | n + 16, h => absurd h (by omega)
theorem shr_bv (s : Int32) : ∀ {x : Nat}, x < 16 → (s >>> nI x).toBitVec = s.toBitVec.sshiftRight x
  | 0, _ => rfl
  | 1, _ => rfl
  | 2, _ => rfl
  | 3, _ => rfl
  | 4, _ => rfl
  | 5, _ => rfl
  | 6, _ => rfl
  | 7, _ => rfl
  | 8, _ => rfl
  | 9, _ => rfl
  | 10, _ => rfl
  | 11, _ => rfl
  | 12, _ => rfl
  | 13, _ => rfl
  | 14, _ => rfl
  | 15, _ => rfl
  | n + 16, h => absurd h (by omega)
theorem hasB_bv {s : Int32} {x : Nat} (h : x < 16) : hasB s x = s.toBitVec.getLsbD x := by
  have e : (s &&& bit x).toBitVec = if s.toBitVec.getLsbD x = true then BitVec.twoPow 32 x else 0#32 := by
    rw [Int32.toBitVec_and, bit_bv h, BitVec.and_twoPow]
  unfold hasB
  cases hb : s.toBitVec.getLsbD x with
  | false =>
    rw [hb, if_neg Bool.false_ne_true] at e
    have : s &&& bit x = 0 := Int32.toBitVec_inj.mp (by rw [e]; rfl)
    simp [this]
  | true =>
    rw [hb, if_pos rfl] at e
    refine decide_eq_true fun q => ?_
    rw [q] at e
    have e2 := congrArg (fun v => BitVec.getLsbD v x) e
    simp only [BitVec.getLsbD_twoPow] at e2
    rw [show (0 : Int32).toBitVec = 0#32 from rfl] at e2
    simp at e2
    omega
theorem shr_and {s : Int32} {x : Nat} (h : x < 16) : (s >>> nI x) &&& 1 = bI (hasB s x) := by
  apply Int32.toBitVec_inj.mp
  rw [Int32.toBitVec_and, shr_bv s h, show (1 : Int32).toBitVec = BitVec.twoPow 32 0 from rfl, BitVec.and_twoPow, BitVec.getLsbD_sshiftRight, hasB_bv h]
  simp only [Nat.zero_add, Nat.add_zero]
  rw [show (decide (32 ≤ 0)) = false from rfl, Bool.not_false, Bool.true_and, if_pos (by omega : x < 32)]
  cases s.toBitVec.getLsbD x <;> rfl
theorem shrB {s : Int32} {x : Nat} (h : x < 16) : (s >>> nI x) &&& 1 = 1 ↔ hasB s x = true := by rw [shr_and h]; exact bI_1
theorem shrBf {s : Int32} {x : Nat} (h : x < 16) (q : ¬ ((s >>> nI x) &&& 1 = 1)) : hasB s x = false := by
  cases e : hasB s x with
  | false => rfl
  | true => exact absurd ((shrB h).mpr e) q
def moRef (M : MoV) (f : Nat → Int32) (i : Nat) : Nat → Int32 := upd f i (f i + (if M.1 = true then 0 else 1))
theorem inv_mo {C : CoV} {tr : Nat → TrV} {Y : YrV} (h : Inv C tr Y) : ¬ C.2.1 = 0 := by
  obtain ⟨m, e, h1, h2⟩ := h.2.1
  rw [e]
  exact nI_ne0 (by omega) (by omega)
theorem spring_eq {C : CoV} {tr : Nat → TrV} {Y : YrV} (h : Inv C tr Y) {z : Int32} : coSpring C z = decide (z - z / C.2.1 * C.2.1 = 0) := by
  obtain ⟨m, e, h1, h2⟩ := h.2.1
  have : (0 : Int32) < C.2.1 := by rw [e]; exact nI_lt (a := 0) (by omega) (by omega)
  unfold coSpring
  rw [decide_eq_true this, Bool.true_and]
