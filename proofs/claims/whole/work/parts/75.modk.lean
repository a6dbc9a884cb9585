theorem nI_s (n : Nat) : nI n + 1 = nI (n + 1) := (Int32.ofNat_add n 1).symm
theorem bits_cB {q : Int32} : ∀ {i : Nat}, i ≤ 8 → bitsN q i = nI (cB q i)
  | 0, _ => rfl
  | i + 1, h => by
    rw [bitsN, bits_cB (q := q) (i := i) (by omega), shr_and (by omega), cB]
    cases hasB q i with
    | true => exact nI_s _
    | false => exact Int32.add_zero _
theorem hasB_sh {q : Int32} {i : Nat} (h : i < 8) : hasB (q >>> nI 8) i = hasB q (8 + i) := by
  rw [hasB_bv (by omega), hasB_bv (by omega), shr_bv q (by decide), BitVec.getLsbD_sshiftRight]
  have h1 : ¬ 32 ≤ i := by omega
  have h2 : 8 + i < 32 := by omega
  simp [h1, h2]
theorem cB_sh {q : Int32} : ∀ {i : Nat}, i ≤ 8 → cB q 8 + cB (q >>> nI 8) i = cB q (8 + i)
  | 0, _ => rfl
  | i + 1, h => by
    have ih := cB_sh (q := q) (i := i) (by omega)
    have e1 : cB (q >>> nI 8) (i + 1) = if hasB (q >>> nI 8) i = true then cB (q >>> nI 8) i + 1 else cB (q >>> nI 8) i := rfl
    have e2 : cB q (8 + i + 1) = if hasB q (8 + i) = true then cB q (8 + i) + 1 else cB q (8 + i) := rfl
    rw [show 8 + (i + 1) = (8 + i) + 1 by omega, e1, e2, hasB_sh (by omega)]
    split <;> omega
theorem cB_255 {q : Int32} : ∀ {i : Nat}, i ≤ 8 → cB (q &&& 255) i = cB q i
  | 0, _ => rfl
  | i + 1, h => by
    have ih := cB_255 (q := q) (i := i) (by omega)
    have e : hasB 255 i = true := by
      have : ∀ k, k < 8 → hasB 255 k = true := by decide +kernel
      exact this i (by omega)
    rw [cB, cB, ih, hasB_and (by omega), e, Bool.and_true]
theorem many_cB {q : Int32} : bitsN (q &&& 255) 8 + bitsN (q >>> 8) 8 = nI (cB q 16) := by
  rw [bits_cB (Nat.le_refl 8), bits_cB (Nat.le_refl 8), cB_255 (Nat.le_refl 8), ← cB_sh (i := 8) (Nat.le_refl 8)]
  exact (Int32.ofNat_add _ _).symm
theorem cpy_s {b h : Nat → Int32} {i : Nat} (e : ∀ k, k < i → h k = b k) : ∀ k, k < i + 1 → upd h i (b i) k = b k := fun k hk => by
  by_cases q : k = i
  · subst q; exact pk_us
  · rw [pk_un q]; exact e k (by omega)
theorem Rel_cpy {b u : Nat → Int32} {C : CoV} {tr : Nat → TrV} {Y : YrV} {pc : Nat} {P : Nat → YrV} (e : ∀ k, k < 259 → u k = b k) (h : Rel b C tr Y pc P) (htc : C.2.2.2.2.2.2.1 ≤ 6) (hdc : C.2.2.2.2.2.2.2.1 ≤ 6) (hpc : pc ≤ 6) : Rel u C tr Y pc P := by
  have z : ∀ k v, k < 259 → b k = v → u k = v := fun k v hk q => (e k hk).trans q
  obtain ⟨⟨g0, g1, g2, g3, g4, g5, g6⟩, g7, g8, g9, g10, g11⟩ := h
  refine ⟨⟨z _ _ (by omega) g0, z _ _ (by omega) g1, z _ _ (by omega) g2, z _ _ (by omega) g3, z _ _ (by omega) g4, z _ _ (by omega) g5, z _ _ (by omega) g6⟩, fun k hk => z _ _ (by omega) (g7 k hk), fun x hx => ?_, fun t ht => ?_, fun j hj => ?_, fun q hq => ?_⟩
  · obtain ⟨a0, a1, a2, a3, a4⟩ := g8 x hx
    exact ⟨z _ _ (by omega) a0, z _ _ (by omega) a1, z _ _ (by omega) a2, z _ _ (by omega) a3, z _ _ (by omega) a4⟩
  · have ht2 : t < C.2.2.2.2.2.2.1 := ht
    obtain ⟨a0, a1, a2, a3, a4, a5, a6⟩ := g9 t ht
    exact ⟨z _ _ (by omega) a0, z _ _ (by omega) a1, z _ _ (by omega) a2, z _ _ (by omega) a3, z _ _ (by omega) a4, z _ _ (by omega) a5, z _ _ (by omega) a6⟩
  · have hj2 : j < C.2.2.2.2.2.2.2.1 := hj
    obtain ⟨a0, a1, a2⟩ := g10 j hj
    exact ⟨z _ _ (by omega) a0, z _ _ (by omega) a1, z _ _ (by omega) a2⟩
  · obtain ⟨a0, a1, a2, a3⟩ := g11 q hq
    refine ⟨z _ _ (by omega) a0, z _ _ (by omega) a1, fun x hx => ⟨z _ _ (by omega) (a2 x hx).1, z _ _ (by omega) (a2 x hx).2⟩, fun t ht => ?_⟩
    have ht2 : t < C.2.2.2.2.2.2.1 := ht
    exact z _ _ (by omega) (a3 t ht)
