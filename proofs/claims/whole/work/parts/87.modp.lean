/-- the bits of a number of 16 bits, counted by Java's way and one by one -/
def popNat (x : Nat) : Nat :=
  let a := x - ((x / 2) &&& 1431655765)
  let b := (a &&& 858993459) + ((a / 4) &&& 858993459)
  let c := (b + b / 16) &&& 252645135
  let d := c + c / 256
  (d + d / 65536) &&& 63
def cBn (x : Nat) : Nat → Nat
  | 0 => 0
  | i + 1 => cBn x i + (bif x.testBit i then 1 else 0)
theorem land_cat {a b m n : Nat} (hb : b < 256) (hn : n < 256) : (256 * a + b) &&& (256 * m + n) = 256 * (a &&& m) + (b &&& n) := by
  have hbn : b &&& n < 2 ^ 8 := Nat.lt_of_le_of_lt Nat.and_le_left hb
  apply Nat.eq_of_testBit_eq
  intro i
  rw [Nat.testBit_and, show (256 : Nat) = 2 ^ 8 from rfl, Nat.testBit_two_pow_mul_add a hb, Nat.testBit_two_pow_mul_add m hn, Nat.testBit_two_pow_mul_add (a &&& m) hbn]
  split
  · rw [Nat.testBit_and]
  · rw [Nat.testBit_and]
theorem pf_1 : ∀ t, t < 2 → ∀ l, l < 128 → (128 * t + l) &&& 85 = l &&& 85 := by decide +kernel
theorem pf_2 : ∀ h, h < 128 → h &&& 5592405 = h &&& 85 := by decide +kernel
theorem pf_3 : ∀ t, t < 4 → ∀ l, l < 64 → (64 * t + l) &&& 51 = l &&& 51 := by decide +kernel
theorem pf_4 : ∀ h, h < 256 → h &&& 3355443 = h &&& 51 := by decide +kernel
abbrev a8 (y : Nat) : Nat := y - ((y / 2) &&& 85)
abbrev b8 (y : Nat) : Nat := (y &&& 51) + ((y / 4) &&& 51)
theorem pf_5 : ∀ y, y < 256 → b8 (a8 y) % 16 ≤ 4 ∧ b8 (a8 y) / 16 ≤ 4 ∧ b8 (a8 y) % 16 + b8 (a8 y) / 16 = cBn y 8 := by decide +kernel
theorem pf_6 : ∀ y, y < 256 → y &&& 986895 = y % 16 ∧ y &&& 15 = y % 16 := by decide +kernel
theorem cBn_cat {h l : Nat} (hl : l < 256) : ∀ {i : Nat}, cBn (256 * h + l) (8 + i) = cBn l 8 + cBn h i
  | 0 => by
    have key : ∀ j, j < 8 → (256 * h + l).testBit j = l.testBit j := fun j hj => by
      rw [show (256 : Nat) = 2 ^ 8 from rfl, Nat.testBit_two_pow_mul_add h hl, if_pos hj]
    show cBn (256 * h + l) 8 = cBn l 8 + 0
    simp only [cBn, key 0 (by decide), key 1 (by decide), key 2 (by decide), key 3 (by decide), key 4 (by decide), key 5 (by decide), key 6 (by decide), key 7 (by decide), Nat.add_zero]
  | i + 1 => by
    have ih := cBn_cat (h := h) hl (i := i)
    have q1 : cBn (256 * h + l) (8 + i + 1) = cBn (256 * h + l) (8 + i) + (bif (256 * h + l).testBit (8 + i) then 1 else 0) := rfl
    have q2 : cBn h (i + 1) = cBn h i + (bif h.testBit i then 1 else 0) := rfl
    rw [show 8 + (i + 1) = (8 + i) + 1 by omega, q1, q2, ih, show (256 * h + l).testBit (8 + i) = h.testBit i by rw [show (256 : Nat) = 2 ^ 8 from rfl, Nat.testBit_two_pow_mul_add h hl, if_neg (by omega), show 8 + i - 8 = i by omega]]
    exact Nat.add_assoc _ _ _
theorem pop_nat {x : Nat} (hx : x < 65536) : popNat x = cBn x 16 := by
  obtain ⟨h, l, rfl, hh, hl⟩ : ∃ h l, x = 256 * h + l ∧ h < 256 ∧ l < 256 := ⟨x / 256, x % 256, by omega, by omega, by omega⟩
  have e1 : ((256 * h + l) / 2) &&& 1431655765 = 256 * ((h / 2) &&& 85) + ((l / 2) &&& 85) := by
    rw [show (256 * h + l) / 2 = 256 * (h / 2) + (128 * (h % 2) + l / 2) by omega, show (1431655765 : Nat) = 256 * 5592405 + 85 from rfl, land_cat (by omega) (by decide), pf_1 (h % 2) (by omega) (l / 2) (by omega), pf_2 (h / 2) (by omega)]
  have k1 : (h / 2) &&& 85 ≤ h / 2 := Nat.and_le_left
  have k2 : (l / 2) &&& 85 ≤ l / 2 := Nat.and_le_left
  have e2 : 256 * h + l - (((256 * h + l) / 2) &&& 1431655765) = 256 * a8 h + a8 l := by
    rw [e1]; show _ = 256 * (h - ((h / 2) &&& 85)) + (l - ((l / 2) &&& 85)); omega
  have f1 := pf_5 h hh
  have f2 := pf_5 l hl
  have g1 : a8 h < 256 := by show h - _ < 256; omega
  have g2 : a8 l < 256 := by show l - _ < 256; omega
  have ec := cBn_cat (h := h) hl (i := 8)
  rw [show 8 + 8 = 16 from rfl] at ec
  rw [ec]
  unfold popNat
  rw [e2]
  generalize a8 h = ah at f1 g1
  generalize a8 l = al at f2 g2
  have e3 : ((256 * ah + al) &&& 858993459) + (((256 * ah + al) / 4) &&& 858993459) = 256 * b8 ah + b8 al := by
    rw [show (256 * ah + al) / 4 = 256 * (ah / 4) + (64 * (ah % 4) + al / 4) by omega, show (858993459 : Nat) = 256 * 3355443 + 51 from rfl, land_cat g2 (by decide), land_cat (by omega) (by decide), pf_3 (ah % 4) (by omega) (al / 4) (by omega), pf_4 ah g1, pf_4 (ah / 4) (by omega)]
    show _ = 256 * ((ah &&& 51) + ((ah / 4) &&& 51)) + ((al &&& 51) + ((al / 4) &&& 51)); omega
  show (((((256 * ah + al) &&& 858993459) + (((256 * ah + al) / 4) &&& 858993459) + (((256 * ah + al) &&& 858993459) + (((256 * ah + al) / 4) &&& 858993459)) / 16) &&& 252645135) + ((((256 * ah + al) &&& 858993459) + (((256 * ah + al) / 4) &&& 858993459) + (((256 * ah + al) &&& 858993459) + (((256 * ah + al) / 4) &&& 858993459)) / 16) &&& 252645135) / 256 + (((((256 * ah + al) &&& 858993459) + (((256 * ah + al) / 4) &&& 858993459) + (((256 * ah + al) &&& 858993459) + (((256 * ah + al) / 4) &&& 858993459)) / 16) &&& 252645135) + ((((256 * ah + al) &&& 858993459) + (((256 * ah + al) / 4) &&& 858993459) + (((256 * ah + al) &&& 858993459) + (((256 * ah + al) / 4) &&& 858993459)) / 16) &&& 252645135) / 256) / 65536) &&& 63 = _
  rw [e3]
  generalize b8 ah = bh at f1
  generalize b8 al = bl at f2
  generalize cBn h 8 = ch at f1
  generalize cBn l 8 = cl at f2
  have e4 : (256 * bh + bl + (256 * bh + bl) / 16) &&& 252645135 = 256 * ch + cl := by
    rw [show 256 * bh + bl + (256 * bh + bl) / 16 = 256 * (bh + bh / 16) + (16 * (bh % 16) + bl + bl / 16) by omega, show (252645135 : Nat) = 256 * 986895 + 15 from rfl, land_cat (by omega) (by decide), (pf_6 (bh + bh / 16) (by omega)).1, (pf_6 (16 * (bh % 16) + bl + bl / 16) (by omega)).2]
    have z1 : (bh + bh / 16) % 16 = ch := by
      rw [show bh + bh / 16 = 16 * (bh / 16) + (bh % 16 + bh / 16) by omega, Nat.mul_add_mod, f1.2.2, Nat.mod_eq_of_lt (by have := f1.1; have := f1.2.1; have := f1.2.2; omega)]
    have z2 : (16 * (bh % 16) + bl + bl / 16) % 16 = cl := by
      rw [show 16 * (bh % 16) + bl + bl / 16 = 16 * (bh % 16 + bl / 16) + (bl % 16 + bl / 16) by omega, Nat.mul_add_mod, f2.2.2, Nat.mod_eq_of_lt (by have := f2.1; have := f2.2.1; have := f2.2.2; omega)]
    rw [z1, z2]
  have m1 : ch ≤ 8 := by have := f1.1; have := f1.2.1; have := f1.2.2; omega
  have m2 : cl ≤ 8 := by have := f2.1; have := f2.2.1; have := f2.2.2; omega
  rw [e4, show (63 : Nat) = 2 ^ 6 - 1 from rfl, Nat.and_two_pow_sub_one_eq_mod, show (256 * ch + cl) / 256 = ch by omega, show (256 * ch + cl + ch) / 65536 = 0 by omega, show 256 * ch + cl + ch + 0 = 2 ^ 6 * (4 * ch) + (cl + ch) by omega, Nat.mul_add_mod, Nat.mod_eq_of_lt (by omega)]
theorem of_tn {a : Int32} {n : Nat} (hn : n < 2 ^ 32) (h : a.toBitVec.toNat = n) : a = nI n :=
  Int32.toBitVec_inj.mp (BitVec.eq_of_toNat_eq (by rw [h, pk_tn hn]))
theorem ush_n {x : Nat} {s : Int32} (k : Nat) (hs : ((s.toUInt32 &&& Int32.toUInt32 31).toBitVec % 32).toNat = k) (hx : x < 2 ^ 32) : ((nI x).toUInt32 >>> (s.toUInt32 &&& Int32.toUInt32 31)).toInt32 = nI (x / 2 ^ k) := by
  refine of_tn (Nat.lt_of_le_of_lt (Nat.div_le_self _ _) hx) ?_
  rw [pk_ushr (nI x) s k hs, pk_tn hx]
theorem and_n {a b : Nat} (ha : a < 2 ^ 32) (hb : b < 2 ^ 32) : nI a &&& nI b = nI (a &&& b) := by
  refine of_tn (Nat.lt_of_le_of_lt Nat.and_le_left ha) ?_
  rw [Int32.toBitVec_and, BitVec.toNat_and, pk_tn ha, pk_tn hb]
theorem popc_nat {x : Nat} (h : x < 65536) : popc (nI x) = nI (popNat x) := by
  have a1 : (x / 2) &&& 1431655765 ≤ x / 2 := Nat.and_le_left
  have e1 : pop1 (nI x) = nI (x - ((x / 2) &&& 1431655765)) := by
    unfold pop1
    rw [ush_n 1 (by decide) (by omega)]
    show nI x - (nI (x / 2) &&& nI 1431655765) = _
    rw [and_n (by omega) (by decide), pk_sub (by omega)]
  have ha : x - ((x / 2) &&& 1431655765) < 65536 := by omega
  unfold popNat popc
  rw [e1]
  generalize x - ((x / 2) &&& 1431655765) = a at ha
  have b1 : a &&& 858993459 ≤ a := Nat.and_le_left
  have b2 : (a / 4) &&& 858993459 ≤ a / 4 := Nat.and_le_left
  have e2 : pop2 (nI a) = nI ((a &&& 858993459) + ((a / 4) &&& 858993459)) := by
    unfold pop2
    rw [ush_n 2 (by decide) (by omega)]
    show (nI a &&& nI 858993459) + (nI (a / 4) &&& nI 858993459) = _
    rw [and_n (by omega) (by decide), and_n (by omega) (by decide), nI_add]
  have hb : (a &&& 858993459) + ((a / 4) &&& 858993459) < 131072 := by omega
  rw [e2]
  show _ = nI ((((((a &&& 858993459) + ((a / 4) &&& 858993459)) + ((a &&& 858993459) + ((a / 4) &&& 858993459)) / 16) &&& 252645135) + ((((a &&& 858993459) + ((a / 4) &&& 858993459)) + ((a &&& 858993459) + ((a / 4) &&& 858993459)) / 16) &&& 252645135) / 256 + (((((a &&& 858993459) + ((a / 4) &&& 858993459)) + ((a &&& 858993459) + ((a / 4) &&& 858993459)) / 16) &&& 252645135) + ((((a &&& 858993459) + ((a / 4) &&& 858993459)) + ((a &&& 858993459) + ((a / 4) &&& 858993459)) / 16) &&& 252645135) / 256) / 65536) &&& 63)
  generalize (a &&& 858993459) + ((a / 4) &&& 858993459) = b at hb
  have c1 : (b + b / 16) &&& 252645135 ≤ b + b / 16 := Nat.and_le_left
  have e3 : pop3 (nI b) = nI ((b + b / 16) &&& 252645135) := by
    unfold pop3
    rw [ush_n 4 (by decide) (by omega), nI_add]
    show nI (b + b / 16) &&& nI 252645135 = _
    rw [and_n (by omega) (by decide)]
  have hc : (b + b / 16) &&& 252645135 < 262144 := by omega
  rw [e3]
  generalize (b + b / 16) &&& 252645135 = c at hc
  have e4 : pop4 (nI c) = nI (c + c / 256) := by
    unfold pop4
    rw [ush_n 8 (by decide) (by omega), nI_add]
  rw [e4]
  have e5 : pop5 (nI (c + c / 256)) = nI (c + c / 256 + (c + c / 256) / 65536) := by
    unfold pop5
    rw [ush_n 16 (by decide) (by omega), nI_add]
  rw [e5]
  show nI (c + c / 256 + (c + c / 256) / 65536) &&& nI 63 = _
  rw [and_n (by omega) (by decide)]
theorem cB_n {x : Nat} (h : x < 65536) : ∀ {i : Nat}, i ≤ 16 → cB (nI x) i = cBn x i
  | 0, _ => rfl
  | i + 1, hi => by
    have e : hasB (nI x) i = x.testBit i := by
      rw [hasB_bv (by omega), ← BitVec.testBit_toNat, pk_tn (by omega)]
    rw [cB, cBn, cB_n h (i := i) (by omega), e]
    cases x.testBit i <;> rfl
theorem popc_cB {q : Int32} (h : ∀ i, 16 ≤ i → q.toBitVec.getLsbD i = false) : popc q = nI (cB q 16) := by
  have hx : q.toBitVec.toNat < 2 ^ 16 := Nat.lt_pow_two_of_testBit _ (fun i hi => by rw [BitVec.testBit_toNat]; exact h i hi)
  have hx2 : q.toBitVec.toNat < 65536 := hx
  have e : q = nI q.toBitVec.toNat := of_tn (by omega) rfl
  rw [e, popc_nat hx2, pop_nat hx2, cB_n hx2 (Nat.le_refl 16)]
theorem fitW_b {C : CoV} {Y : YrV} {k : Int32} {i : Nat} : ∀ {w : Nat}, w ≤ 16 → w ≤ i → (fitW C Y k w).toBitVec.getLsbD i = false
  | 0, _, _ => by rw [show fitW C Y k 0 = 0 from rfl, show (0 : Int32).toBitVec = 0#32 from rfl]; simp
  | w + 1, h, hi => by
    have ih := fitW_b (C := C) (Y := Y) (k := k) (i := i) (w := w) (by omega) (by omega)
    rw [fitW]
    split
    · rw [Int32.toBitVec_or, BitVec.getLsbD_or, ih, bit_bv (by omega), BitVec.getLsbD_twoPow]
      have : ¬ w = i := by omega
      simp [this]
    · exact ih
def wetS (C : CoV) (Y : YrV) (q : Int32) (x : Nat) : Nat → Int32
  | 0 => 0
  | w + 1 => if hasB q w = true ∧ hasB (wetB C Y (nI w)) x = true then wetS C Y q x w ||| bit w else wetS C Y q x w
theorem wetS_b {C : CoV} {Y : YrV} {q : Int32} {x i : Nat} (hi : i < 16) : ∀ {w : Nat}, w ≤ 16 → hasB (wetS C Y q x w) i = (decide (i < w) && (hasB q i && hasB (wetB C Y (nI i)) x))
  | 0, _ => by rw [show wetS C Y q x 0 = 0 from rfl, hasB_0]; simp
  | w + 1, h => by
    have ih := wetS_b (C := C) (Y := Y) (q := q) (x := x) hi (w := w) (by omega)
    rw [wetS]
    split
    · rename_i hc
      rw [hasB_bv hi, Int32.toBitVec_or, BitVec.getLsbD_or, ← hasB_bv hi, ih, ← hasB_bv hi, hasB_bit (by omega) hi]
      by_cases e : i = w
      · subst e; simp [hc.1, hc.2]
      · have : (i < w + 1) = (i < w) := by apply propext; omega
        simp only [this, decide_eq_false e, Bool.or_false]
    · rename_i hc
      rw [ih]
      by_cases e : i = w
      · subst e
        have : (hasB q i && hasB (wetB C Y (nI i)) x) = false := by
          cases h1 : hasB q i with
          | false => rfl
          | true =>
            cases h2 : hasB (wetB C Y (nI i)) x with
            | false => rfl
            | true => exact absurd ⟨h1, h2⟩ hc
        rw [this, Bool.and_false, Bool.and_false]
      · have : (i < w + 1) = (i < w) := by apply propext; omega
        simp only [this]
theorem wet_cnt {C : CoV} {Y : YrV} {q : Int32} {x : Nat} : ∀ {w : Nat}, w ≤ 16 → nI (cB (wetS C Y q x 16) w) = cntW C Y x q w
  | 0, _ => rfl
  | w + 1, h => by
    have ih := wet_cnt (C := C) (Y := Y) (q := q) (x := x) (w := w) (by omega)
    have e := wetS_b (C := C) (Y := Y) (q := q) (x := x) (i := w) (by omega) (w := 16) (Nat.le_refl 16)
    rw [decide_eq_true (by omega : w < 16), Bool.true_and] at e
    rw [cB, cntW, e]
    by_cases hc : hasB q w = true ∧ hasB (wetB C Y (nI w)) x = true
    · rw [if_pos hc, hc.1, hc.2, if_pos (show (true && true) = true from rfl), ← ih]; exact (nI_s _).symm
    · rw [if_neg hc, if_neg (by rw [Bool.and_eq_true]; exact hc)]; exact ih
theorem dry_cnt {C : CoV} {Y : YrV} {q : Int32} {x : Nat} : ∀ {w : Nat}, w ≤ 16 → cB (q &&& (wetS C Y q x 16 ^^^ -1)) w + cB (wetS C Y q x 16) w = cB q w
  | 0, _ => rfl
  | w + 1, h => by
    have ih := dry_cnt (C := C) (Y := Y) (q := q) (x := x) (w := w) (by omega)
    have e := wetS_b (C := C) (Y := Y) (q := q) (x := x) (i := w) (by omega) (w := 16) (Nat.le_refl 16)
    rw [decide_eq_true (by omega : w < 16), Bool.true_and] at e
    rw [cB, cB, cB, hasB_and (by omega), hasB_not (by omega), e]
    cases hasB q w with
    | false =>
      rw [Bool.false_and, Bool.false_and, if_neg Bool.false_ne_true, if_neg Bool.false_ne_true, if_neg Bool.false_ne_true]; exact ih
    | true =>
      rw [Bool.true_and, Bool.true_and, if_pos rfl]
      cases hasB (wetB C Y (nI w)) x with
      | false => rw [Bool.not_false, if_pos rfl, if_neg Bool.false_ne_true]; omega
      | true => rw [Bool.not_true, if_neg Bool.false_ne_true, if_pos rfl]; omega
theorem cB_le {q : Int32} : ∀ {w : Nat}, cB q w ≤ w
  | 0 => Nat.le_refl 0
  | w + 1 => by
    have := cB_le (q := q) (w := w)
    rw [cB]
    split <;> omega
theorem neL_n {C : CoV} {Y : YrV} {q : Int32} {x : Nat} (h : ∀ i, 16 ≤ i → q.toBitVec.getLsbD i = false) : neL C Y q x = imax (nI (cB (wetS C Y q x 16) 16)) (nI (cB (q &&& (wetS C Y q x 16 ^^^ -1)) 16)) := by
  have d := dry_cnt (C := C) (Y := Y) (q := q) (x := x) (w := 16) (Nat.le_refl 16)
  unfold neL
  rw [← wet_cnt (Nat.le_refl 16), popc_cB h, pk_sub (by omega), ← d, Nat.add_sub_cancel]
theorem neL_le {C : CoV} {Y : YrV} {q : Int32} {x : Nat} (h : ∀ i, 16 ≤ i → q.toBitVec.getLsbD i = false) : ∃ v : Nat, neL C Y q x = nI v ∧ v ≤ cB q 16 := by
  have d := dry_cnt (C := C) (Y := Y) (q := q) (x := x) (w := 16) (Nat.le_refl 16)
  rw [neL_n h]
  unfold imax
  split
  · exact ⟨_, rfl, by omega⟩
  · exact ⟨_, rfl, by omega⟩
def lnG (C : CoV) (Y : YrV) (q : Int32) (i : Nat) (f l : Int32) : Prop := (i = 0 ∧ f = -1 ∧ l = 100) ∨ (0 < i ∧ ¬ q = 0 ∧ (f, l) = neS C Y q i)
section LN
variable {C : CoV} {Y : YrV} {q f l w a : Int32} {i j : Nat}
theorem ln_max {a b : Int32} : (if b < a then a else b) = imax a b := by
  unfold imax
  by_cases h : a < b
  · rw [if_neg (Int32.not_lt.mpr (Int32.le_of_lt h)), if_pos h]
  · rw [if_neg h]
    by_cases h2 : b < a
    · rw [if_pos h2]
    · rw [if_neg h2]; exact Int32.le_antisymm (Int32.not_lt.mp h2 |> fun z => Int32.not_lt.mp h) (Int32.not_lt.mp h2)
theorem ln_y (hq : ∀ i, 16 ≤ i → q.toBitVec.getLsbD i = false) (hq0 : ¬ q = 0) (g : lnG C Y q i f l) (hw : w = neL C Y q i) (c : w < l) : lnG C Y q (i + 1) (nI i) (imin l w) := by
  have e : imin l w = w := by unfold imin; rw [if_pos c]
  rw [e, hw]
  rcases g with ⟨h1, h2, h3⟩ | ⟨h1, h2, h3⟩
  · subst h1
    obtain ⟨v, hv, hb⟩ := neL_le (C := C) (Y := Y) (x := 0) hq
    have b := cB_le (q := q) (w := 16)
    refine Or.inr ⟨by omega, hq0, ?_⟩
    have hlt : neL C Y q 0 < popc q + 1 := by
      rw [hv, popc_cB hq, nI_s]; exact nI_lt (by omega) (by omega)
    rw [neS, show neS C Y q 0 = (-1, popc q + 1) from rfl, if_pos hlt]
  · refine Or.inr ⟨by omega, hq0, ?_⟩
    rw [neS, ← h3, if_pos (by rw [← hw]; exact c)]
theorem ln_n (hq : ∀ i, 16 ≤ i → q.toBitVec.getLsbD i = false) (hq0 : ¬ q = 0) (g : lnG C Y q i f l) (hw : w = neL C Y q i) (c : ¬ w < l) : lnG C Y q (i + 1) f (imin l w) := by
  have e : imin l w = l := by unfold imin; rw [if_neg c]
  rw [e]
  rcases g with ⟨h1, h2, h3⟩ | ⟨h1, h2, h3⟩
  · exfalso
    obtain ⟨v, hv, hb⟩ := neL_le (C := C) (Y := Y) (x := i) hq
    have b := cB_le (q := q) (w := 16)
    apply c
    rw [hw, hv, h3]; exact nI_lt (b := 100) (by omega) (by omega)
  · refine Or.inr ⟨by omega, hq0, ?_⟩
    rw [neS, ← h3, if_neg (by rw [← hw]; exact c)]
theorem wS_y {x : Nat} (ha : a = wetS C Y q x j) (h1 : hasB q j = true) (h2 : hasB (wetB C Y (nI j)) x = true) : a ||| bit j = wetS C Y q x (j + 1) := by rw [wetS, if_pos ⟨h1, h2⟩, ← ha]
theorem wS_n1 {x : Nat} (ha : a = wetS C Y q x j) (h1 : hasB q j = false) : a ||| 0 = wetS C Y q x (j + 1) := by rw [wetS, if_neg (fun h => by rw [h.1] at h1; exact absurd h1 (by decide)), ← ha, or_zero]
theorem wS_n2 {x : Nat} (ha : a = wetS C Y q x j) (h2 : hasB (wetB C Y (nI j)) x = false) : a ||| 0 = wetS C Y q x (j + 1) := by rw [wetS, if_neg (fun h => by rw [h.2] at h2; exact absurd h2 (by decide)), ← ha, or_zero]
theorem isw_t {s : Int32} {x : Nat} (hx : x < 16) (h : decide ((s >>> (nI x &&& 31)) &&& 1 = 1) = true) : hasB s x = true := by
  rw [decide_eq_true_eq, sh31r s (by omega)] at h
  exact (shrB hx).mp h
theorem isw_f {s : Int32} {x : Nat} (hx : x < 16) (h : decide ((s >>> (nI x &&& 31)) &&& 1 = 1) = false) : hasB s x = false := by
  rw [decide_eq_false_iff_not, sh31r s (by omega)] at h
  exact shrBf hx h
theorem lnk_1 {k : Int32} (h : wi k 0 7 = false) : lnOk k w = false := by unfold lnOk; rw [h]; rfl
theorem lnk_2 {k : Int32} (h : wi w 0 1 = false) : lnOk k w = false := by unfold lnOk; rw [h, Bool.and_false]
theorem lnk_3 {k : Int32} (h : wi k 0 7 = true) (h2 : wi w 0 1 = true) : lnOk k w = true := by unfold lnOk; rw [h, h2]; rfl
theorem ln_b {k : Int32} (h : lnOk k w = false) : (-10 : Int32) = lnR C Y k w := by unfold lnR; rw [h]; rfl
theorem ln_0 {k : Int32} (h : lnOk k w = true) (h0 : w = 0) : bitsN (fitW C Y k 16 &&& 255) 8 + bitsN (fitW C Y k 16 >>> 8) 8 = lnR C Y k w := by
  unfold lnR
  rw [if_pos h, if_pos h0, popc_cB (fun i hi => fitW_b (Nat.le_refl 16) hi), many_cB]
theorem ln_e {k : Int32} (h : lnOk k w = true) (h0 : ¬ w = 0) (hn : 1 ≤ C.1) (g : lnG C Y (fitW C Y k 16) i f l) (he : i = C.1 ∨ fitW C Y k 16 = 0) : f = lnR C Y k w := by
  unfold lnR neR
  rw [if_pos h, if_neg h0]
  rcases g with ⟨h1, h2, h3⟩ | ⟨h1, h2, h3⟩
  · rcases he with he | he
    · omega
    · rw [if_pos he, h2]
  · rcases he with he | he
    · rw [if_neg h2, ← show (f, l) = neS C Y (fitW C Y k 16) C.1 from he ▸ h3]
    · exact absurd he h2
end LN
theorem im_1 {a b : Int32} (h : a ≤ b) : b = imax a b := by
  unfold imax
  by_cases h2 : a < b
  · rw [if_pos h2]
  · rw [if_neg h2]; exact Int32.le_antisymm (Int32.not_lt.mp h2) h
abbrev mnV (q : Int32) : Int32 := bitsN (q &&& 255) 8 + bitsN (q >>> 8) 8
theorem ln_w1 {C : CoV} {Y : YrV} {q a : Int32} {x : Nat} (hq : ∀ i, 16 ≤ i → q.toBitVec.getLsbD i = false) (ea : a = wetS C Y q x 16) (c : mnV a ≤ mnV (q &&& (a ^^^ -1))) : mnV (q &&& (a ^^^ -1)) = neL C Y q x := by
  have e1 : mnV a = nI (cB (wetS C Y q x 16) 16) := by rw [ea]; exact many_cB
  have e2 : mnV (q &&& (a ^^^ -1)) = nI (cB (q &&& (wetS C Y q x 16 ^^^ -1)) 16) := by rw [ea]; exact many_cB
  rw [neL_n hq, ← e1, ← e2]
  exact im_1 c
theorem ln_w2 {C : CoV} {Y : YrV} {q a : Int32} {x : Nat} (hq : ∀ i, 16 ≤ i → q.toBitVec.getLsbD i = false) (ea : a = wetS C Y q x 16) (c : ¬ mnV a ≤ mnV (q &&& (a ^^^ -1))) : mnV a = neL C Y q x := by
  have e1 : mnV a = nI (cB (wetS C Y q x 16) 16) := by rw [ea]; exact many_cB
  have e2 : mnV (q &&& (a ^^^ -1)) = nI (cB (q &&& (wetS C Y q x 16 ^^^ -1)) 16) := by rw [ea]; exact many_cB
  rw [neL_n hq, ← e1, ← e2]
  unfold imax
  rw [if_neg (Int32.not_lt.mpr (Int32.le_of_lt (Int32.not_le.mp c)))]
