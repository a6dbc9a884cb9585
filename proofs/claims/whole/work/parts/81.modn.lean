theorem inv_at {C : CoV} {tr : Nat → TrV} {Y Z : YrV} {z : Nat} (hI : Inv C tr Y) (h : Z.1 = nI z) (hk : z < 1000000) : Inv C tr Z :=
  ⟨hI.1, hI.2.1, hI.2.2.1, hI.2.2.2.1, hI.2.2.2.2.1, hI.2.2.2.2.2.1, hI.2.2.2.2.2.2.1, ⟨z, h, hk⟩⟩
theorem rem_sh {b b1 : Nat → Int32} {C : CoV} {tr : Nat → TrV} {Y : YrV} {pc : Nat} {P : Nat → YrV} (h : Rel b C tr Y pc P) (e6 : pc = 6) (htc : C.2.2.2.2.2.2.1 ≤ 6) (hdc : C.2.2.2.2.2.2.2.1 ≤ 6) (h1 : ∀ k, k < 120 → b1 (115 + k) = b (115 + k + 24)) (h2 : ∀ k, k < 115 → b1 k = b k) : Rel (upd b1 6 (nI 5)) C tr Y 5 (rotV P) := by
  have z : ∀ k v, k < 115 → k ≠ 6 → b k = v → (upd b1 6 (nI 5)) k = v := fun k v hk hn q => by rw [pk_un hn, h2 k hk]; exact q
  have hz : ∀ n v, 115 ≤ n → n < 235 → b (n + 24) = v → (upd b1 6 (nI 5)) n = v := fun n v q1 q2 e => by
    have := h1 (n - 115) (by omega)
    rw [show 115 + (n - 115) = n by omega] at this
    rw [pk_un (by omega), this]; exact e
  obtain ⟨⟨g0, g1, g2, g3, g4, g5, g6⟩, g7, g8, g9, g10, g11⟩ := h
  refine ⟨⟨z _ _ (by omega) (by omega) g0, z _ _ (by omega) (by omega) g1, z _ _ (by omega) (by omega) g2, z _ _ (by omega) (by omega) g3, z _ _ (by omega) (by omega) g4, z _ _ (by omega) (by omega) g5, pk_us⟩, fun k hk => z _ _ (by omega) (by omega) (g7 k hk), fun x hx => ?_, fun t ht => ?_, fun j hj => ?_, fun q hq => ?_⟩
  · obtain ⟨a0, a1, a2, a3, a4⟩ := g8 x hx
    exact ⟨z _ _ (by omega) (by omega) a0, z _ _ (by omega) (by omega) a1, z _ _ (by omega) (by omega) a2, z _ _ (by omega) (by omega) a3, z _ _ (by omega) (by omega) a4⟩
  · have ht2 : t < C.2.2.2.2.2.2.1 := ht
    obtain ⟨a0, a1, a2, a3, a4, a5, a6⟩ := g9 t ht
    exact ⟨z _ _ (by omega) (by omega) a0, z _ _ (by omega) (by omega) a1, z _ _ (by omega) (by omega) a2, z _ _ (by omega) (by omega) a3, z _ _ (by omega) (by omega) a4, z _ _ (by omega) (by omega) a5, z _ _ (by omega) (by omega) a6⟩
  · have hj2 : j < C.2.2.2.2.2.2.2.1 := hj
    obtain ⟨a0, a1, a2⟩ := g10 j hj
    exact ⟨z _ _ (by omega) (by omega) a0, z _ _ (by omega) (by omega) a1, z _ _ (by omega) (by omega) a2⟩
  · have er : rotV P q = P (q + 1) := by unfold rotV; rw [if_pos hq]
    rw [er]
    obtain ⟨a0, a1, a2, a3⟩ := g11 (q + 1) (by omega)
    refine ⟨hz _ _ (by omega) (by omega) ?_, hz _ _ (by omega) (by omega) ?_, fun x hx => ⟨hz _ _ (by omega) (by omega) ?_, hz _ _ (by omega) (by omega) ?_⟩, fun t ht => ?_⟩
    · rw [show 115 + 24 * q + 24 = 115 + 24 * (q + 1) by omega]; exact a0
    · rw [show 115 + 24 * q + 1 + 24 = 115 + 24 * (q + 1) + 1 by omega]; exact a1
    · rw [show 115 + 24 * q + 2 + x + 24 = 115 + 24 * (q + 1) + 2 + x by omega]; exact (a2 x hx).1
    · rw [show 115 + 24 * q + 10 + x + 24 = 115 + 24 * (q + 1) + 10 + x by omega]; exact (a2 x hx).2
    · have ht2 : t < C.2.2.2.2.2.2.1 := ht
      refine hz _ _ (by omega) (by omega) ?_
      rw [show 115 + 24 * q + 18 + t + 24 = 115 + 24 * (q + 1) + 18 + t by omega]; exact a3 t ht
theorem sh_1 {b b1 : Nat → Int32} {i : Nat} (h1 : ∀ k, k < i → b1 (115 + k) = b (115 + k + 24)) (h2 : ∀ k, ¬ (115 ≤ k ∧ k < 115 + i) → b1 k = b k) : ∀ k, k < i + 1 → upd b1 (115 + i) (b1 (115 + i + 24)) (115 + k) = b (115 + k + 24) := fun k hk => by
  by_cases e : k = i
  · subst e; rw [pk_us]; exact h2 _ (by omega)
  · rw [pk_un (by omega)]; exact h1 k (by omega)
theorem sh_2 {b b1 : Nat → Int32} {i : Nat} {v : Int32} (h2 : ∀ k, ¬ (115 ≤ k ∧ k < 115 + i) → b1 k = b k) : ∀ k, ¬ (115 ≤ k ∧ k < 115 + (i + 1)) → upd b1 (115 + i) v k = b k := fun k hk => by
  rw [pk_un (by omega)]; exact h2 k (by omega)
/-- the year being put among those that may be undone, at place p -/
def RemG (C : CoV) (tr : Nat → TrV) (Y : YrV) (p : Nat) (P : Nat → YrV) (u : Nat → Int32) (x t : Nat) : Prop :=
  ∃ b, Rel b C tr Y p P ∧ (∀ k, ¬ (115 + 24 * p ≤ k ∧ k < 139 + 24 * p) → u k = b k) ∧ u (115 + 24 * p) = Y.1 ∧ u (115 + 24 * p + 1) = Y.2.1 ∧ (∀ z, z < x → u (115 + 24 * p + 2 + z) = Y.2.2.2.1 z ∧ u (115 + 24 * p + 10 + z) = Y.2.2.2.2 z) ∧ ∀ z, z < t → u (115 + 24 * p + 18 + z) = b (55 + 7 * z + 6)
section RG
variable {b u : Nat → Int32} {C : CoV} {tr : Nat → TrV} {Y : YrV} {p x t : Nat} {P : Nat → YrV}
theorem rem_0 (h : Rel b C tr Y p P) : RemG C tr Y p P (upd (upd b (115 + 24 * p) Y.1) (115 + 24 * p + 1) Y.2.1) 0 0 :=
  ⟨b, h, fun k hk => by rw [pk_un (by omega), pk_un (by omega)], by rw [pk_un (by omega), pk_us], pk_us, fun z hz => absurd hz (Nat.not_lt_zero _), fun z hz => absurd hz (Nat.not_lt_zero _)⟩
theorem rem_x (h : RemG C tr Y p P u x 0) (hx : x < 8) : RemG C tr Y p P (upd (upd u (115 + 24 * p + 2 + x) (Y.2.2.2.1 x)) (115 + 24 * p + 10 + x) (Y.2.2.2.2 x)) (x + 1) 0 := by
  obtain ⟨b, h0, h1, h2, h3, h4, h5⟩ := h
  refine ⟨b, h0, fun k hk => by rw [pk_un (by omega), pk_un (by omega)]; exact h1 k hk, by rw [pk_un (by omega), pk_un (by omega)]; exact h2, by rw [pk_un (by omega), pk_un (by omega)]; exact h3, fun z hz => ?_, fun z hz => absurd hz (Nat.not_lt_zero _)⟩
  by_cases e : z = x
  · subst e; exact ⟨by rw [pk_un (by omega), pk_us], pk_us⟩
  · exact ⟨by rw [pk_un (by omega), pk_un (by omega)]; exact (h4 z (by omega)).1, by rw [pk_un (by omega), pk_un (by omega)]; exact (h4 z (by omega)).2⟩
theorem rem_t (h : RemG C tr Y p P u 8 t) (ht : t < 6) : RemG C tr Y p P (upd u (115 + 24 * p + 18 + t) (u (55 + 7 * t + 6))) 8 (t + 1) := by
  obtain ⟨b, h0, h1, h2, h3, h4, h5⟩ := h
  refine ⟨b, h0, fun k hk => by rw [pk_un (by omega)]; exact h1 k hk, by rw [pk_un (by omega)]; exact h2, by rw [pk_un (by omega)]; exact h3, fun z hz => ⟨by rw [pk_un (by omega)]; exact (h4 z hz).1, by rw [pk_un (by omega)]; exact (h4 z hz).2⟩, fun z hz => ?_⟩
  by_cases e : z = t
  · subst e; rw [pk_us]; exact h1 _ (by omega)
  · rw [pk_un (by omega)]; exact h5 z (by omega)
theorem rem_d (h : RemG C tr Y p P u x t) (hx : x < 8) : u (15 + 5 * x + 3) = Y.2.2.2.1 x := by
  obtain ⟨b, h0, h1, -⟩ := h
  rw [h1 _ (by omega)]; exact h0.c3 hx
theorem rem_f (h : RemG C tr Y p P u x t) (hx : x < 8) : u (15 + 5 * x + 4) = Y.2.2.2.2 x := by
  obtain ⟨b, h0, h1, -⟩ := h
  rw [h1 _ (by omega)]; exact h0.c4 hx
theorem rem_6 (h : RemG C tr Y p P u x t) : u 6 = nI p := by
  obtain ⟨b, h0, h1, -⟩ := h
  rw [h1 _ (by omega)]; exact h0.np
theorem rem_end (h : RemG C tr Y p P u 8 6) (hp : p < 6) (htc : C.2.2.2.2.2.2.1 ≤ 6) (hdc : C.2.2.2.2.2.2.2.1 ≤ 6) : Rel (upd u 6 (nI (p + 1))) C tr Y (p + 1) (va_up P p Y) := by
  obtain ⟨b, h, h1, h2, h3, h4, h5⟩ := h
  have z : ∀ k v, ¬ (115 + 24 * p ≤ k ∧ k < 139 + 24 * p) → k ≠ 6 → b k = v → (upd u 6 (nI (p + 1))) k = v := fun k v hk hn q => by rw [pk_un hn, h1 k hk]; exact q
  obtain ⟨⟨g0, g1, g2, g3, g4, g5, g6⟩, g7, g8, g9, g10, g11⟩ := h
  refine ⟨⟨z _ _ (by omega) (by omega) g0, z _ _ (by omega) (by omega) g1, z _ _ (by omega) (by omega) g2, z _ _ (by omega) (by omega) g3, z _ _ (by omega) (by omega) g4, z _ _ (by omega) (by omega) g5, pk_us⟩, fun k hk => z _ _ (by omega) (by omega) (g7 k hk), fun x hx => ?_, fun t ht => ?_, fun j hj => ?_, fun q hq => ?_⟩
  · obtain ⟨a0, a1, a2, a3, a4⟩ := g8 x hx
    exact ⟨z _ _ (by omega) (by omega) a0, z _ _ (by omega) (by omega) a1, z _ _ (by omega) (by omega) a2, z _ _ (by omega) (by omega) a3, z _ _ (by omega) (by omega) a4⟩
  · have ht2 : t < C.2.2.2.2.2.2.1 := ht
    obtain ⟨a0, a1, a2, a3, a4, a5, a6⟩ := g9 t ht
    exact ⟨z _ _ (by omega) (by omega) a0, z _ _ (by omega) (by omega) a1, z _ _ (by omega) (by omega) a2, z _ _ (by omega) (by omega) a3, z _ _ (by omega) (by omega) a4, z _ _ (by omega) (by omega) a5, z _ _ (by omega) (by omega) a6⟩
  · have hj2 : j < C.2.2.2.2.2.2.2.1 := hj
    obtain ⟨a0, a1, a2⟩ := g10 j hj
    exact ⟨z _ _ (by omega) (by omega) a0, z _ _ (by omega) (by omega) a1, z _ _ (by omega) (by omega) a2⟩
  · by_cases e : q = p
    · subst e
      rw [va_up_self]
      refine ⟨by rw [pk_un (by omega)]; exact h2, by rw [pk_un (by omega)]; exact h3, fun x hx => ⟨by rw [pk_un (by omega)]; exact (h4 x hx).1, by rw [pk_un (by omega)]; exact (h4 x hx).2⟩, fun t ht => ?_⟩
      have ht2 : t < C.2.2.2.2.2.2.1 := ht
      rw [pk_un (by omega), h5 t (by omega)]
      exact (g9 t ht).2.2.2.2.2.2
    · rw [va_up_ne _ _ e]
      obtain ⟨a0, a1, a2, a3⟩ := g11 q (by omega)
      refine ⟨z _ _ (by omega) (by omega) a0, z _ _ (by omega) (by omega) a1, fun x hx => ⟨z _ _ (by omega) (by omega) (a2 x hx).1, z _ _ (by omega) (by omega) (a2 x hx).2⟩, fun t ht => ?_⟩
      have ht2 : t < C.2.2.2.2.2.2.1 := ht
      exact z _ _ (by omega) (by omega) (a3 t ht)
theorem rem_a (h : RemG C tr Y p P u 8 6) (hp : p < 6) (htc : C.2.2.2.2.2.2.1 ≤ 6) (hdc : C.2.2.2.2.2.2.2.1 ≤ 6) : Rel (upd u 6 (nI (p + 1))) C tr Y (pastPush Y p P).1 (pastPush Y p P).2 := by
  have e : pastPush Y p P = (p + 1, va_up P p Y) := if_pos hp
  rw [e]; exact rem_end h hp htc hdc
theorem rem_b (h : RemG C tr Y 5 (rotV P) u 8 6) (e6 : p = 6) (htc : C.2.2.2.2.2.2.1 ≤ 6) (hdc : C.2.2.2.2.2.2.2.1 ≤ 6) : Rel (upd u 6 (nI 6)) C tr Y (pastPush Y p P).1 (pastPush Y p P).2 := by
  have e : pastPush Y p P = (6, va_up (rotV P) 5 Y) := if_neg (by omega)
  rw [e]; exact rem_end h (by decide) htc hdc
theorem pp_le {g : Nat} (h : g ≤ 6) : (pastPush Y g P).1 ≤ 6 := by
  unfold pastPush
  split
  · show g + 1 ≤ 6; omega
  · exact Nat.le_refl 6
end RG
def yeF (M : MoV) (f : Nat → Int32) (Y : YrV) (n : Int32) : Nat → Int32 := if wi n 1 9 = true then (if Y.1 ≤ 900 then f else moRef M f 1) else moRef M f 0
section YE
variable {b : Nat → Int32} {C : CoV} {tr : Nat → TrV} {Y : YrV} {pc : Nat} {P : Nat → YrV} {M : MoV} {f : Nat → Int32} {n : Int32}
theorem yem_1 (hr : Rel b C tr Y pc P) (h : wi n 1 9 = false) : (-2 : Int32) = yeR C tr Y n ∧ Rel b C tr (yeS C tr Y pc P n).1 (yeS C tr Y pc P n).2.1 (yeS C tr Y pc P n).2.2 ∧ moRef M f 0 = yeF M f Y n := by
  have e : yeS C tr Y pc P n = (Y, pc, P) := by unfold yeS yeOk; rw [h]; rfl
  rw [e]
  unfold yeR yeF
  rw [h]
  exact ⟨rfl, hr, rfl⟩
theorem yem_2 (hr : Rel b C tr Y pc P) (h : wi n 1 9 = true) (h2 : ¬ Y.1 ≤ 900) : (-3 : Int32) = yeR C tr Y n ∧ Rel b C tr (yeS C tr Y pc P n).1 (yeS C tr Y pc P n).2.1 (yeS C tr Y pc P n).2.2 ∧ moRef M f 1 = yeF M f Y n := by
  have e : yeS C tr Y pc P n = (Y, pc, P) := by unfold yeS yeOk; rw [h, decide_eq_false h2]; rfl
  rw [e]
  unfold yeR yeF
  rw [h, if_pos rfl, if_neg h2, if_pos rfl, if_neg h2]
  exact ⟨rfl, hr, rfl⟩
theorem yem_3 {Q : YrV} {g j : Nat} {R : Nat → YrV} (hr : Rel b C tr Q g R) (h : wi (nI j) 1 9 = true) (h2 : Y.1 ≤ 900) (hj : j < 2 ^ 31) (hQ : (Q, g, R) = yrsRun C tr Y pc P j) : Q.2.1 = yeR C tr Y (nI j) ∧ Rel b C tr (yeS C tr Y pc P (nI j)).1 (yeS C tr Y pc P (nI j)).2.1 (yeS C tr Y pc P (nI j)).2.2 ∧ f = yeF M f Y (nI j) := by
  have e : yeS C tr Y pc P (nI j) = (Q, g, R) := by unfold yeS yeOk; rw [h, decide_eq_true h2, nI_clamp hj, hQ]; rfl
  rw [e]
  unfold yeR yeF
  rw [h, if_pos rfl, if_pos h2, if_pos rfl, if_pos h2, nI_clamp hj]
  exact ⟨by rw [yrsRun_1 (pc' := pc) (P' := P), ← hQ], hr, rfl⟩
end YE
def UndG (b u : Nat → Int32) (p x t : Nat) : Prop := (∀ k, 115 ≤ k → u k = b k) ∧ (u 0 = b 0 ∧ u 1 = b (115 + 24 * p) ∧ u 2 = b (115 + 24 * p + 1) ∧ u 3 = b 3 ∧ u 4 = b 4 ∧ u 5 = b 5 ∧ u 6 = nI p) ∧ (∀ k, k < 8 → u (7 + k) = b (7 + k)) ∧ (∀ z, z < 8 → u (15 + 5 * z + 0) = b (15 + 5 * z + 0) ∧ u (15 + 5 * z + 1) = b (15 + 5 * z + 1) ∧ u (15 + 5 * z + 2) = b (15 + 5 * z + 2)) ∧ (∀ z, z < x → u (15 + 5 * z + 3) = b (115 + 24 * p + 2 + z) ∧ u (15 + 5 * z + 4) = b (115 + 24 * p + 10 + z)) ∧ (∀ z w, z < 6 → w < 6 → u (55 + 7 * z + w) = b (55 + 7 * z + w)) ∧ (∀ z, z < t → u (55 + 7 * z + 6) = b (115 + 24 * p + 18 + z)) ∧ ∀ j w, j < 6 → w < 3 → u (97 + 3 * j + w) = b (97 + 3 * j + w)
theorem und_0 {b : Nat → Int32} {p : Nat} : UndG b (upd (upd (upd b 6 (nI p)) 1 (upd b 6 (nI p) (115 + 24 * p))) 2 (upd (upd b 6 (nI p)) 1 (upd b 6 (nI p) (115 + 24 * p)) (115 + 24 * p + 1))) p 0 0 := by
  have z : ∀ v w k, k ≠ 6 → k ≠ 1 → k ≠ 2 → (upd (upd (upd b 6 (nI p)) 1 v) 2 w) k = b k := fun v w k h6 h1 h2 => by rw [pk_un h2, pk_un h1, pk_un h6]
  refine ⟨fun k hk => z _ _ _ (by omega) (by omega) (by omega), ⟨z _ _ _ (by omega) (by omega) (by omega), ?_, ?_, z _ _ _ (by omega) (by omega) (by omega), z _ _ _ (by omega) (by omega) (by omega), z _ _ _ (by omega) (by omega) (by omega), ?_⟩, fun k hk => z _ _ _ (by omega) (by omega) (by omega), fun y hy => ⟨z _ _ _ (by omega) (by omega) (by omega), z _ _ _ (by omega) (by omega) (by omega), z _ _ _ (by omega) (by omega) (by omega)⟩, fun y hy => absurd hy (Nat.not_lt_zero _), fun y w hy hw => z _ _ _ (by omega) (by omega) (by omega), fun y hy => absurd hy (Nat.not_lt_zero _), fun y w hy hw => z _ _ _ (by omega) (by omega) (by omega)⟩
  · rw [pk_un (by omega), pk_us, pk_un (by omega)]
  · rw [pk_us, pk_un (by omega), pk_un (by omega)]
  · rw [pk_un (by omega), pk_un (by omega), pk_us]
theorem und_x {b u : Nat → Int32} {p x : Nat} (h : UndG b u p x 0) (hx : x < 8) : UndG b (upd (upd u (15 + 5 * x + 3) (u (115 + 24 * p + 2 + x))) (15 + 5 * x + 4) (upd u (15 + 5 * x + 3) (u (115 + 24 * p + 2 + x)) (115 + 24 * p + 10 + x))) p (x + 1) 0 := by
  obtain ⟨h0, ⟨a0, a1, a2, a3, a4, a5, a6⟩, h1, h2, h3, h4, h5, h6⟩ := h
  have z : ∀ v w k r, k ≠ 15 + 5 * x + 3 → k ≠ 15 + 5 * x + 4 → u k = r → (upd (upd u (15 + 5 * x + 3) v) (15 + 5 * x + 4) w) k = r := fun v w k r q1 q2 e => by rw [pk_un q2, pk_un q1]; exact e
  refine ⟨fun k hk => z _ _ _ _ (by omega) (by omega) (h0 k hk), ⟨z _ _ _ _ (by omega) (by omega) a0, z _ _ _ _ (by omega) (by omega) a1, z _ _ _ _ (by omega) (by omega) a2, z _ _ _ _ (by omega) (by omega) a3, z _ _ _ _ (by omega) (by omega) a4, z _ _ _ _ (by omega) (by omega) a5, z _ _ _ _ (by omega) (by omega) a6⟩, fun k hk => z _ _ _ _ (by omega) (by omega) (h1 k hk), fun y hy => ⟨z _ _ _ _ (by omega) (by omega) (h2 y hy).1, z _ _ _ _ (by omega) (by omega) (h2 y hy).2.1, z _ _ _ _ (by omega) (by omega) (h2 y hy).2.2⟩, fun y hy => ?_, fun y w hy hw => z _ _ _ _ (by omega) (by omega) (h4 y w hy hw), fun y hy => absurd hy (Nat.not_lt_zero _), fun y w hy hw => z _ _ _ _ (by omega) (by omega) (h6 y w hy hw)⟩
  by_cases e : y = x
  · subst e
    refine ⟨?_, ?_⟩
    · rw [pk_un (by omega), pk_us]; exact h0 _ (by omega)
    · rw [pk_us, pk_un (by omega)]; exact h0 _ (by omega)
  · exact ⟨z _ _ _ _ (by omega) (by omega) (h3 y (by omega)).1, z _ _ _ _ (by omega) (by omega) (h3 y (by omega)).2⟩
theorem und_t {b u : Nat → Int32} {p t : Nat} (h : UndG b u p 8 t) (ht : t < 6) : UndG b (upd u (55 + 7 * t + 6) (u (115 + 24 * p + 18 + t))) p 8 (t + 1) := by
  obtain ⟨h0, ⟨a0, a1, a2, a3, a4, a5, a6⟩, h1, h2, h3, h4, h5, h6⟩ := h
  have z : ∀ v k r, k ≠ 55 + 7 * t + 6 → u k = r → (upd u (55 + 7 * t + 6) v) k = r := fun v k r q1 e => by rw [pk_un q1]; exact e
  refine ⟨fun k hk => z _ _ _ (by omega) (h0 k hk), ⟨z _ _ _ (by omega) a0, z _ _ _ (by omega) a1, z _ _ _ (by omega) a2, z _ _ _ (by omega) a3, z _ _ _ (by omega) a4, z _ _ _ (by omega) a5, z _ _ _ (by omega) a6⟩, fun k hk => z _ _ _ (by omega) (h1 k hk), fun y hy => ⟨z _ _ _ (by omega) (h2 y hy).1, z _ _ _ (by omega) (h2 y hy).2.1, z _ _ _ (by omega) (h2 y hy).2.2⟩, fun y hy => ⟨z _ _ _ (by omega) (h3 y hy).1, z _ _ _ (by omega) (h3 y hy).2⟩, fun y w hy hw => z _ _ _ (by omega) (h4 y w hy hw), fun y hy => ?_, fun y w hy hw => z _ _ _ (by omega) (h6 y w hy hw)⟩
  by_cases e : y = t
  · subst e; rw [pk_us]; exact h0 _ (by omega)
  · exact z _ _ _ (by omega) (h5 y (by omega))
theorem und_end {b u : Nat → Int32} {C : CoV} {tr : Nat → TrV} {Y : YrV} {p : Nat} {P : Nat → YrV} (hr : Rel b C tr Y (p + 1) P) (htc : C.2.2.2.2.2.2.1 ≤ 6) (hdc : C.2.2.2.2.2.2.2.1 ≤ 6) (h : UndG b u p 8 6) : Rel u C tr (P p) p P := by
  obtain ⟨h0, ⟨a0, a1, a2, a3, a4, a5, a6⟩, h1, h2, h3, h4, h5, h6⟩ := h
  obtain ⟨⟨g0, g1, g2, g3, g4, g5, g6⟩, g7, g8, g9, g10, g11⟩ := hr
  obtain ⟨p0, p1, p2, p3⟩ := g11 p (by omega)
  refine ⟨⟨a0.trans g0, a1.trans p0, a2.trans p1, a3.trans g3, a4.trans g4, a5.trans g5, a6⟩, fun k hk => (h1 k hk).trans (g7 k hk), fun x hx => ⟨(h2 x hx).1.trans (g8 x hx).1, (h2 x hx).2.1.trans (g8 x hx).2.1, (h2 x hx).2.2.trans (g8 x hx).2.2.1, (h3 x hx).1.trans (p2 x hx).1, (h3 x hx).2.trans (p2 x hx).2⟩, fun t ht => ?_, fun j hj => ?_, fun q hq => ?_⟩
  · have ht2 : t < C.2.2.2.2.2.2.1 := ht
    have ht6 : t < 6 := by omega
    obtain ⟨c0, c1, c2, c3, c4, c5, c6⟩ := g9 t ht
    exact ⟨(h4 t 0 ht6 (by decide)).trans c0, (h4 t 1 ht6 (by decide)).trans c1, (h4 t 2 ht6 (by decide)).trans c2, (h4 t 3 ht6 (by decide)).trans c3, (h4 t 4 ht6 (by decide)).trans c4, (h4 t 5 ht6 (by decide)).trans c5, (h5 t ht6).trans (p3 t ht)⟩
  · have hj2 : j < C.2.2.2.2.2.2.2.1 := hj
    have hj6 : j < 6 := by omega
    obtain ⟨c0, c1, c2⟩ := g10 j hj
    exact ⟨(h6 j 0 hj6 (by decide)).trans c0, (h6 j 1 hj6 (by decide)).trans c1, (h6 j 2 hj6 (by decide)).trans c2⟩
  · obtain ⟨c0, c1, c2, c3⟩ := g11 q (by omega)
    exact ⟨(h0 _ (by omega)).trans c0, (h0 _ (by omega)).trans c1, fun x hx => ⟨(h0 _ (by omega)).trans (c2 x hx).1, (h0 _ (by omega)).trans (c2 x hx).2⟩, fun t ht => (h0 _ (by omega)).trans (c3 t ht)⟩
