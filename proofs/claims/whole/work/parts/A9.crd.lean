/-- what the class's read leaves: pc', X' of pc, X0; X the trial ahead of it -/
def rdC (g : Nat → Int32) (n pc : Nat) (X0 X : St3) (r : Int32) (pc' : Nat) (X' : St3) : Prop := ∃ S, pEnd g n S ∧
  (pOk g n S = false → r = -10 - nI (nxt g n S.1) ∧ pc' = pc ∧ X' = X0) ∧
  (pOk g n S = true → r = rdV S X ∧ (firstN (refP S X) S.2.2.1 < S.2.2.1 → pc' = pc ∧ X' = X0) ∧ (¬ firstN (refP S X) S.2.2.1 < S.2.2.1 → pc' = 0 ∧ X' = ((tIs S X S.2.2.1).1, trCpy (tIs S X S.2.2.1).2.1 X0.2.1 (coTc (tIs S X S.2.2.1).1), (tIs S X S.2.2.1).2.2)))
section CRD
variable {g : Nat → Int32} {n pc i : Nat} {X0 X : St3} {r : Int32} {S : PS}
theorem cr_f (hE : pEnd g n S) (hk : pOk g n S = false) (hr : r = nI (nxt g n S.1)) : rdC g n pc X0 X (-10 - r) pc X0 :=
  ⟨S, hE, fun _ => ⟨by rw [hr], rfl, rfl⟩, fun h => by rw [hk] at h; exact absurd h (by decide)⟩
theorem cr_no (hE : pEnd g n S) (hk : pOk g n S = true) (hi : i < S.2.2.1) (hp : ∀ j, j < i → refP S X j = false) (hr : refP S X i = true) : rdC g n pc X0 X (-1000 - nI i) pc X0 := by
  have e : firstN (refP S X) S.2.2.1 = i := firstN_eq hp (Or.inl ⟨hi, hr⟩)
  refine ⟨S, hE, fun h => by rw [hk] at h; exact absurd h (by decide), fun _ => ⟨?_, fun _ => ⟨rfl, rfl⟩, fun h => ?_⟩⟩
  · unfold rdV; rw [e, if_pos hi]
  · rw [e] at h; exact absurd hi h
theorem cr_ok {m : Nat} (hE : pEnd g n S) (hk : pOk g n S = true) (hi : i = S.2.2.1) (hm : m = S.2.2.1) (hp : ∀ j, j < i → refP S X j = false) : rdC g n pc X0 X (nI m) 0 ((tIs S X i).1, trCpy (tIs S X i).2.1 X0.2.1 (coTc (tIs S X i).1), (tIs S X i).2.2) := by
  subst hi
  have e : firstN (refP S X) S.2.2.1 = S.2.2.1 := firstN_eq hp (Or.inr rfl)
  refine ⟨S, hE, fun h => by rw [hk] at h; exact absurd h (by decide), fun _ => ⟨?_, fun h => ?_, fun _ => ⟨rfl, rfl⟩⟩⟩
  · unfold rdV; rw [e, if_neg (Nat.lt_irrefl _), hm]
  · rw [e] at h; exact absurd h (Nat.lt_irrefl _)
theorem told_n {V : V3} {m pc : Nat} (h : m < 2 ^ 31) : toldV V (nI m) = V ∧ toldP (nI m) pc = 0 := by
  unfold toldV toldP
  rw [if_neg (nI_pos h), if_neg (nI_pos h)]
  exact ⟨rfl, rfl⟩
end CRD
