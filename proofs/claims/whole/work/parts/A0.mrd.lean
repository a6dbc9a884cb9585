def pcI (i pc : Nat) : Nat := if i = 0 then pc else 0
/-- what read leaves in the book, by the text's state at its end -/
def rdM (g : Nat → Int32) (n : Nat) (P : Nat → YrV) (pc : Nat) (X : St3) (r : Int32) (b : Nat → Int32) : Prop := ∃ S, pEnd g n S ∧
  (pOk g n S = false → r = -10 - nI (nxt g n S.1) ∧ Rel b X.1 X.2.1 X.2.2 pc P) ∧
  (pOk g n S = true → r = rdV S X ∧ (firstN (refP S X) S.2.2.1 < S.2.2.1 → Rel b X.1 X.2.1 X.2.2 pc P) ∧ (¬ firstN (refP S X) S.2.2.1 < S.2.2.1 → Rel b (tIs S X S.2.2.1).1 (tIs S X S.2.2.1).2.1 (tIs S X S.2.2.1).2.2 0 P))
section MRD
variable {g : Nat → Int32} {n pc i : Nat} {P : Nat → YrV} {X : St3} {r : Int32} {b : Nat → Int32} {S : PS}
theorem mr_f (hE : pEnd g n S) (hk : pOk g n S = false) (hb : Rel b X.1 X.2.1 X.2.2 pc P) : rdM g n P pc X (-10 - nI (nxt g n S.1)) b :=
  ⟨S, hE, fun _ => ⟨rfl, hb⟩, fun h => by rw [hk] at h; exact absurd h (by decide)⟩
theorem mr_ok (hE : pEnd g n S) (hk : pOk g n S = true) (hi : i = S.2.2.1) (hp : ∀ j, j < i → refP S X j = false) (hpos : 0 < S.2.2.1) (hb : Rel b (tIs S X i).1 (tIs S X i).2.1 (tIs S X i).2.2 (pcI i pc) P) : rdM g n P pc X (nI i) b := by
  subst hi
  have e : firstN (refP S X) S.2.2.1 = S.2.2.1 := firstN_eq hp (Or.inr rfl)
  refine ⟨S, hE, fun h => by rw [hk] at h; exact absurd h (by decide), fun _ => ⟨?_, fun h => ?_, fun _ => ?_⟩⟩
  · unfold rdV; rw [e, if_neg (Nat.lt_irrefl _)]
  · rw [e] at h; exact absurd h (Nat.lt_irrefl _)
  · have e2 : pcI S.2.2.1 pc = 0 := if_neg (by omega)
    rw [e2] at hb; exact hb
theorem mr_no (hE : pEnd g n S) (hk : pOk g n S = true) (hi : i < S.2.2.1) (hp : ∀ j, j < i → refP S X j = false) (hr : refP S X i = true) (hb : Rel b X.1 X.2.1 X.2.2 pc P) : rdM g n P pc X (-1000 - nI i) b := by
  have e : firstN (refP S X) S.2.2.1 = i := firstN_eq hp (Or.inl ⟨hi, hr⟩)
  refine ⟨S, hE, fun h => by rw [hk] at h; exact absurd h (by decide), fun _ => ⟨?_, fun _ => hb, fun h => ?_⟩⟩
  · unfold rdV; rw [e, if_pos hi]
  · rw [e] at h; exact absurd hi h
theorem bI_inj {a b : Bool} (h : bI a = bI b) : a = b := by
  cases a <;> cases b <;> first | rfl | exact absurd h (by decide)
theorem ok_pos (h : pOk g n S = true) : 0 < S.2.2.1 := by
  unfold pOk at h
  simp only [Bool.and_eq_true, decide_eq_true_eq] at h
  exact h.2.2
theorem pc_s {f : Nat → Int32} {w : Nat} {v : Nat → Int32} {u : (Nat → Int32) × (Nat → Int32)} {r : Int32} {i : Nat} (h : tmP f P w v X r u) (hr : ¬ r = 0) : ¬ tIR w v X < 0 ∧ u.2 = f ∧ Rel u.1 (tIX w v X).1 (tIX w v X).2.1 (tIX w v X).2.2 (pcI (i + 1) pc) P := by
  have h1 : ¬ tIR w v X < 0 := fun q => by
    have := h.1
    rw [decide_eq_true q] at this
    exact hr this
  exact ⟨h1, h.2.2, h.2.1 h1⟩
theorem pc_r {f : Nat → Int32} {w : Nat} {v : Nat → Int32} {u : (Nat → Int32) × (Nat → Int32)} {r : Int32} (h : tmP f P w v X r u) (hr : r = 0) : tIR w v X < 0 := by
  apply Classical.byContradiction
  intro q
  have := h.1
  rw [decide_eq_false q, hr] at this
  exact absurd this (by decide)
end MRD
