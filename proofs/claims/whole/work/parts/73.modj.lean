def begG (b : Nat → Int32) (j i : Nat) : Prop := (b 0 = nI j ∧ b 1 = nI 0 ∧ b 2 = nI 50 ∧ b 3 = nI 4 ∧ b 4 = nI 0 ∧ b 5 = nI 0 ∧ b 6 = nI 0) ∧ (∀ k, k < i → b (7 + k) = nI 3 ∧ b (15 + 5 * k) = nI 2 ∧ b (15 + 5 * k + 1) = nI 10) ∧ ∀ x, x < 8 → b (15 + 5 * x + 2) = nI 0 ∧ b (15 + 5 * x + 3) = nI 0 ∧ b (15 + 5 * x + 4) = nI 0
theorem beg_0 {b : Nat → Int32} {j : Nat} (h : ∀ k, k < 259 → b k = nI 0) : begG (upd (upd (upd b 0 (nI j)) 2 (nI 50)) 3 (nI 4)) j 0 := by
  have z : ∀ k, k < 259 → k ≠ 0 → k ≠ 2 → k ≠ 3 → (upd (upd (upd b 0 (nI j)) 2 (nI 50)) 3 (nI 4)) k = nI 0 := fun k hk h0 h2 h3 => by
    rw [pk_un h3, pk_un h2, pk_un h0]; exact h k hk
  refine ⟨⟨?_, ?_, ?_, ?_, ?_, ?_, ?_⟩, fun k hk => absurd hk (Nat.not_lt_zero _), fun x hx => ⟨?_, ?_, ?_⟩⟩
  · rw [pk_un (by decide), pk_un (by decide), pk_us]
  · exact z 1 (by decide) (by decide) (by decide) (by decide)
  · rw [pk_un (by decide), pk_us]
  · exact pk_us
  · exact z 4 (by decide) (by decide) (by decide) (by decide)
  · exact z 5 (by decide) (by decide) (by decide) (by decide)
  · exact z 6 (by decide) (by decide) (by decide) (by decide)
  · exact z _ (by omega) (by omega) (by omega) (by omega)
  · exact z _ (by omega) (by omega) (by omega) (by omega)
  · exact z _ (by omega) (by omega) (by omega) (by omega)
theorem beg_s {b : Nat → Int32} {j i : Nat} (hi : i < 8) (h : begG b j i) : begG (upd (upd (upd b (7 + i) (nI 3)) (15 + 5 * i) (nI 2)) (15 + 5 * i + 1) (nI 10)) j (i + 1) := by
  have z : ∀ k v, k ≠ 7 + i → k ≠ 15 + 5 * i → k ≠ 15 + 5 * i + 1 → b k = v → (upd (upd (upd b (7 + i) (nI 3)) (15 + 5 * i) (nI 2)) (15 + 5 * i + 1) (nI 10)) k = v := fun k v h0 h2 h3 e => by
    rw [pk_un h3, pk_un h2, pk_un h0]; exact e
  obtain ⟨⟨g0, g1, g2, g3, g4, g5, g6⟩, g7, g8⟩ := h
  refine ⟨⟨z _ _ (by omega) (by omega) (by omega) g0, z _ _ (by omega) (by omega) (by omega) g1, z _ _ (by omega) (by omega) (by omega) g2, z _ _ (by omega) (by omega) (by omega) g3, z _ _ (by omega) (by omega) (by omega) g4, z _ _ (by omega) (by omega) (by omega) g5, z _ _ (by omega) (by omega) (by omega) g6⟩, fun k hk => ?_, fun x hx => ⟨z _ _ (by omega) (by omega) (by omega) (g8 x hx).1, z _ _ (by omega) (by omega) (by omega) (g8 x hx).2.1, z _ _ (by omega) (by omega) (by omega) (g8 x hx).2.2⟩⟩
  by_cases e : k = i
  · subst e
    refine ⟨?_, ?_, ?_⟩
    · rw [pk_un (by omega), pk_un (by omega), pk_us]
    · rw [pk_un (by omega), pk_us]
    · exact pk_us
  · have q := g7 k (by omega)
    exact ⟨z _ _ (by omega) (by omega) (by omega) q.1, z _ _ (by omega) (by omega) (by omega) q.2.1, z _ _ (by omega) (by omega) (by omega) q.2.2⟩
theorem beg_e {b : Nat → Int32} {C : CoV} {tr : Nat → TrV} {P : Nat → YrV} {j : Nat} (h : begG b j 8) : Rel b (co0 j C) tr yr0 0 P := by
  obtain ⟨⟨g0, g1, g2, g3, g4, g5, g6⟩, g7, g8⟩ := h
  exact ⟨⟨g0, g1, g2, g3, g4, g5, g6⟩, fun k hk => (g7 k hk).1, fun x hx => ⟨(g7 x hx).2.1, (g7 x hx).2.2, (g8 x hx).1, (g8 x hx).2.1, (g8 x hx).2.2⟩, fun t ht => absurd ht (Nat.not_lt_zero _), fun t ht => absurd ht (Nat.not_lt_zero _), fun q hq => absurd hq (Nat.not_lt_zero _)⟩
theorem beg_z {b : Nat → Int32} {i : Nat} (h : ∀ k, k < i → b k = nI 0) : ∀ k, k < i + 1 → upd b i (nI 0) k = nI 0 := fun k hk => by
  by_cases e : k = i
  · subst e; exact pk_us
  · rw [pk_un e]; exact h k (by omega)
theorem coast_no {b : Nat → Int32} {C : CoV} {tr : Nat → TrV} {Y : YrV} {pc : Nat} {P : Nat → YrV} {M : MoV} {f : Nat → Int32} {n : Int32} (hr : Rel b C tr Y pc P) (c : wi n 1 8 = false) : -2 = tCoR n C ∧ Rel b (tCo n C Y).1 tr (tCo n C Y).2 (okP (wi n 1 8) pc) P ∧ moRef M f 0 = moV M f (wi n 1 8) := by
  unfold tCoR tCo okP moV
  rw [c]
  exact ⟨rfl, hr, rfl⟩
theorem coast_ok {b : Nat → Int32} {C : CoV} {tr : Nat → TrV} {Y : YrV} {pc j : Nat} {P : Nat → YrV} {M : MoV} {f : Nat → Int32} (hj : j < 2 ^ 31) (hr : Rel b (co0 j C) tr yr0 0 P) (c : wi (nI j) 1 8 = true) : nI C.1 = tCoR (nI j) C ∧ Rel b (tCo (nI j) C Y).1 tr (tCo (nI j) C Y).2 (okP (wi (nI j) 1 8) pc) P ∧ f = moV M f (wi (nI j) 1 8) := by
  unfold tCoR tCo okP moV
  rw [c, nI_clamp hj]
  exact ⟨rfl, hr, rfl⟩
