theorem nI_s (n : Nat) : nI n + 1 = nI (n + 1) := (Int32.ofNat_add n 1).symm
theorem bits_cB {q : Int32} : ∀ {i : Nat}, i ≤ 8 → bitsN q i = nI (cB q i)
  | 0, _ => rfl
  | i + 1, h => by
    rw [bitsN, bits_cB (q := q) (i := i) (by omega), shr_and (by omega), cB]
    cases hasB q i with
    | true => exact nI_s _
    | false => exact Int32.add_zero _
theorem hasB_sh {q : Int32} {i : Nat} (h : i < 8) : hasB (q >>> nI 8) i = hasB q (8 + i) := by
  rw [hasB_bv (by omega), hasB_bv (by omega), shr_bv q (by decide), BitVec.getLsbD_sshiftRight]
  have h1 : ¬ 32 ≤ i := by omega
  have h2 : 8 + i < 32 := by omega
  simp [h1, h2]
theorem cB_sh {q : Int32} : ∀ {i : Nat}, i ≤ 8 → cB q 8 + cB (q >>> nI 8) i = cB q (8 + i)
  | 0, _ => rfl
  | i + 1, h => by
    have ih := cB_sh (q := q) (i := i) (by omega)
    have e1 : cB (q >>> nI 8) (i + 1) = if hasB (q >>> nI 8) i = true then cB (q >>> nI 8) i + 1 else cB (q >>> nI 8) i := rfl
    have e2 : cB q (8 + i + 1) = if hasB q (8 + i) = true then cB q (8 + i) + 1 else cB q (8 + i) := rfl
    rw [show 8 + (i + 1) = (8 + i) + 1 by omega, e1, e2, hasB_sh (by omega)]
    split <;> omega
theorem cB_255 {q : Int32} : ∀ {i : Nat}, i ≤ 8 → cB (q &&& 255) i = cB q i
  | 0, _ => rfl
  | i + 1, h => by
    have ih := cB_255 (q := q) (i := i) (by omega)
    have e : hasB 255 i = true := by
      have : ∀ k, k < 8 → hasB 255 k = true := by decide +kernel
      exact this i (by omega)
    rw [cB, cB, ih, hasB_and (by omega), e, Bool.and_true]
theorem many_cB {q : Int32} : bitsN (q &&& 255) 8 + bitsN (q >>> 8) 8 = nI (cB q 16) := by
  rw [bits_cB (Nat.le_refl 8), bits_cB (Nat.le_refl 8), cB_255 (Nat.le_refl 8), ← cB_sh (i := 8) (Nat.le_refl 8)]
  exact (Int32.ofNat_add _ _).symm
