/-! the two readings meet -/
def pW (S : PS) : Prop := (∀ i, i < S.2.2.1 → (S.2.2.2.1 i = 0 ↔ i = 0)) ∧ (S.2.1 ≠ 0 → (S.2.2.2.1 S.2.2.1 = 0 ↔ S.2.2.1 = 0))
theorem pW_s {g : Nat → Int32} {n : Nat} {S T : PS} (h : pW S) (hs : pStep g n S = some T) : pW T := by
  unfold pStep at hs
  split at hs
  · split at hs
    · split at hs
      · rename_i hc
        cases hs
        refine ⟨fun i hi => ?_, fun _ => ?_⟩
        · have hi2 : i < S.2.2.1 := hi
          show va_up S.2.2.2.1 S.2.2.1 _ i = 0 ↔ i = 0
          rw [va_up_ne _ _ (show i ≠ S.2.2.1 by omega)]
          exact h.1 i hi
        · show va_up S.2.2.2.1 S.2.2.1 _ S.2.2.1 = 0 ↔ S.2.2.1 = 0
          rw [va_up_self]
          exact hc.2.2
      · cases hs
    · split at hs
      · split at hs
        · rename_i hc
          cases hs
          exact ⟨h.1, fun _ => h.2 (by have := hc.1; omega)⟩
        · cases hs
      · split at hs
        · rename_i hc
          cases hs
          refine ⟨fun i hi => ?_, fun z => absurd rfl z⟩
          have hi2 : i < S.2.2.1 + 1 := hi
          show S.2.2.2.1 i = 0 ↔ i = 0
          by_cases e : i = S.2.2.1
          · rw [e]; exact h.2 (by have := hc.2; omega)
          · exact h.1 i (by omega)
        · cases hs
  · cases hs
theorem pW_k {g : Nat → Int32} {n : Nat} : ∀ (k : Nat) (S : PS), pRun g n k = some S → pW S
  | 0, S, h => by
    cases h
    exact ⟨fun i hi => absurd hi (Nat.not_lt_zero _), fun z => absurd rfl z⟩
  | k + 1, S, h => by
    cases hk : pRun g n k with
    | none => rw [pRun, hk] at h; cases h
    | some T => rw [pRun, hk] at h; exact pW_s (pW_k k T hk) h
theorem firstN_cg {p q : Nat → Bool} : ∀ {n : Nat}, (∀ j, j < n → p j = q j) → firstN p n = firstN q n
  | 0, _ => rfl
  | n + 1, h => by
    have e := firstN_cg (p := p) (q := q) (n := n) (fun j hj => h j (by omega))
    unfold firstN
    rw [e, h n (by omega)]
/-- two coasts that differ only in what is told of no tide and no treaty -/
def eqS (tr : Nat → TrV) (X X' : St3) : Prop := ∃ (n : Nat) (mo : Int32) (ht wo tn wn : Nat → Int32) (tc : Nat) (a a' : (Nat → Int32) × (Nat → Int32) × (Nat → Int32)) (T T' : Nat → TrV) (Y : YrV), X = ((n, mo, ht, wo, tn, wn, tc, 0, a), T, Y) ∧ X' = ((n, mo, ht, wo, tn, wn, tc, 0, a'), T', Y) ∧ (∀ i, i < tc → T i = T' i) ∧ ∀ i, tc ≤ i → T' i = tr i
theorem eq_s {tr : Nat → TrV} {X X' : St3} {w : Nat} {v : Nat → Int32} (h : eqS tr X X') (hw0 : w ≠ 0) : tIR w v X = tIR w v X' ∧ eqS tr (tIX w v X) (tIX w v X') := by
  obtain ⟨n, mo, ht, wo, tn, wn, tc, a, a', T, T', Y, rfl, rfl, h1, h2⟩ := h
  by_cases w1 : w = 1
  · subst w1
    refine ⟨rfl, ?_⟩
    show eqS tr ((tCe (n, mo, ht, wo, tn, wn, tc, 0, a) Y (v 0) (v 1) (v 2) (v 3)).1, T, (tCe (n, mo, ht, wo, tn, wn, tc, 0, a) Y (v 0) (v 1) (v 2) (v 3)).2) ((tCe (n, mo, ht, wo, tn, wn, tc, 0, a') Y (v 0) (v 1) (v 2) (v 3)).1, T', (tCe (n, mo, ht, wo, tn, wn, tc, 0, a') Y (v 0) (v 1) (v 2) (v 3)).2)
    unfold tCe
    by_cases ok : okCell (n, mo, ht, wo, tn, wn, tc, 0, a) (v 0) (v 1) (v 2) (v 3) = true
    · rw [if_pos ok, if_pos (show okCell (n, mo, ht, wo, tn, wn, tc, 0, a') (v 0) (v 1) (v 2) (v 3) = true from ok)]
      exact ⟨_, _, _, _, _, _, _, _, _, _, _, _, rfl, rfl, h1, h2⟩
    · rw [if_neg ok, if_neg (show ¬ okCell (n, mo, ht, wo, tn, wn, tc, 0, a') (v 0) (v 1) (v 2) (v 3) = true from ok)]
      exact ⟨_, _, _, _, _, _, _, _, _, _, _, _, rfl, rfl, h1, h2⟩
  · by_cases w2 : w = 2
    · subst w2
      refine ⟨rfl, ?_⟩
      show eqS tr ((n, mo, ht, wo, tn, wn, tc, 0, a), T, tDi (n, mo, ht, wo, tn, wn, tc, 0, a) Y (v 0) (v 1)) ((n, mo, ht, wo, tn, wn, tc, 0, a'), T', tDi (n, mo, ht, wo, tn, wn, tc, 0, a) Y (v 0) (v 1))
      exact ⟨_, _, _, _, _, _, _, _, _, _, _, _, rfl, rfl, h1, h2⟩
    · by_cases w3 : w = 3
      · subst w3
        refine ⟨rfl, ?_⟩
        show eqS tr (tWa (n, mo, ht, wo, tn, wn, tc, 0, a) (v 0) (v 1), T, Y) (tWa (n, mo, ht, wo, tn, wn, tc, 0, a') (v 0) (v 1), T', Y)
        unfold tWa
        by_cases ok : okWant (v 0) (v 1) = true
        · rw [if_pos ok, if_pos ok]
          exact ⟨_, _, _, _, _, _, _, _, _, _, _, _, rfl, rfl, h1, h2⟩
        · rw [if_neg ok, if_neg ok]
          exact ⟨_, _, _, _, _, _, _, _, _, _, _, _, rfl, rfl, h1, h2⟩
      · by_cases w4 : w = 4
        · subst w4
          refine ⟨rfl, ?_⟩
          show eqS tr (tMo (n, mo, ht, wo, tn, wn, tc, 0, a) (v 0), T, Y) (tMo (n, mo, ht, wo, tn, wn, tc, 0, a') (v 0), T', Y)
          unfold tMo
          by_cases ok : wi (v 0) 1 9 = true
          · rw [if_pos ok, if_pos ok]
            exact ⟨_, _, _, _, _, _, _, _, _, _, _, _, rfl, rfl, h1, h2⟩
          · rw [if_neg ok, if_neg ok]
            exact ⟨_, _, _, _, _, _, _, _, _, _, _, _, rfl, rfl, h1, h2⟩
        · unfold tIR tIX
          rw [if_neg hw0, if_neg w1, if_neg w2, if_neg w3, if_neg w4, if_neg hw0, if_neg w1, if_neg w2, if_neg w3, if_neg w4, if_neg hw0, if_neg w1, if_neg w2, if_neg w3, if_neg w4, if_neg hw0, if_neg w1, if_neg w2, if_neg w3, if_neg w4]
          refine ⟨rfl, ?_⟩
          unfold tTr coAdd
          by_cases ok : okTr (n, mo, ht, wo, tn, wn, tc, 0, a) (v 0) (v 1) (v 2) (v 3) (v 4) (v 5) = true
          · rw [if_pos ok, if_pos (show okTr (n, mo, ht, wo, tn, wn, tc, 0, a') (v 0) (v 1) (v 2) (v 3) (v 4) (v 5) = true from ok)]
            by_cases h6 : tc < 6
            · rw [if_pos (show coTc (n, mo, ht, wo, tn, wn, tc, 0, a) < 6 from h6), if_pos (show coTc (n, mo, ht, wo, tn, wn, tc, 0, a') < 6 from h6)]
              refine ⟨n, mo, ht, wo, tn, wn, tc + 1, a, a', va_up T tc _, va_up T' tc _, Y, rfl, rfl, fun i hi => ?_, fun i hi => ?_⟩
              · by_cases e : i = tc
                · subst e; rw [va_up_self, va_up_self]
                · rw [va_up_ne _ _ e, va_up_ne _ _ e]; exact h1 i (by omega)
              · rw [va_up_ne _ _ (show i ≠ tc by omega)]; exact h2 i (by omega)
            · rw [if_neg (show ¬ coTc (n, mo, ht, wo, tn, wn, tc, 0, a) < 6 from h6), if_neg (show ¬ coTc (n, mo, ht, wo, tn, wn, tc, 0, a') < 6 from h6)]
              exact ⟨_, _, _, _, _, _, _, _, _, _, _, _, rfl, rfl, h1, h2⟩
          · rw [if_neg ok, if_neg (show ¬ okTr (n, mo, ht, wo, tn, wn, tc, 0, a') (v 0) (v 1) (v 2) (v 3) (v 4) (v 5) = true from ok)]
            exact ⟨_, _, _, _, _, _, _, _, _, _, _, _, rfl, rfl, h1, h2⟩
theorem eq_is {tr : Nat → TrV} {S : PS} {X X' : St3} (hW : pW S) (h0 : eqS tr (tIs S X 1) (tIs S X' 1)) : ∀ i, i + 1 ≤ S.2.2.1 → eqS tr (tIs S X (i + 1)) (tIs S X' (i + 1))
  | 0, _ => h0
  | i + 1, hi => (eq_s (eq_is hW h0 i (by omega)) (fun e => absurd ((hW.1 (i + 1) (by omega)).mp e) (by omega))).2
theorem ia_dc0 {n : Nat} {mo : Int32} {ht wo tn wn : Nat → Int32} {tc : Nat} {a a' : (Nat → Int32) × (Nat → Int32) × (Nat → Int32)} {T : Nat → TrV} {Y : YrV} (h : IA (n, mo, ht, wo, tn, wn, tc, 0, a') T Y) : IA (n, mo, ht, wo, tn, wn, tc, 0, a) T Y :=
  ⟨h.1, h.2.1, h.2.2.1, fun j hj => absurd hj (Nat.not_lt_zero _), h.2.2.2.2⟩
theorem rel_dc0 {b : Nat → Int32} {n : Nat} {mo : Int32} {ht wo tn wn : Nat → Int32} {tc pc : Nat} {a a' : (Nat → Int32) × (Nat → Int32) × (Nat → Int32)} {T : Nat → TrV} {Y : YrV} {P : Nat → YrV} (h : Rel b (n, mo, ht, wo, tn, wn, tc, 0, a') T Y pc P) : Rel b (n, mo, ht, wo, tn, wn, tc, 0, a) T Y pc P :=
  ⟨h.1, h.2.1, h.2.2.1, h.2.2.2.1, fun j hj => absurd hj (Nat.not_lt_zero _), h.2.2.2.2.2⟩
theorem rd_meet {g : Nat → Int32} {n pc pc' : Nat} {C E : CoV} {tr T : Nat → TrV} {Y Z : YrV} {P : Nat → YrV} {r r' : Int32} {X' : St3} {b : Nat → Int32} (hA : IA C tr Y) (hB : tB (E, T, Z)) (hc : rdC g n pc (C, tr, Y) (E, T, Z) r pc' X') (hm : rdM g n P pc (C, tr, Y) r' b) : r = r' ∧ IA X'.1 X'.2.1 X'.2.2 ∧ Rel b X'.1 X'.2.1 X'.2.2 pc' P ∧ ((pc' = pc ∧ X' = (C, tr, Y)) ∨ pc' = 0) := by
  obtain ⟨S, hS, c1, c2⟩ := hc
  obtain ⟨S', hS', m1, m2⟩ := hm
  have eS := pEnd_u hS hS'
  subst eS
  by_cases ok : pOk g n S = true
  · have hpos : 0 < S.2.2.1 := by
      unfold pOk at ok
      rw [Bool.and_eq_true, Bool.and_eq_true] at ok
      exact of_decide_eq_true ok.2.2
    obtain ⟨⟨kk, hkk⟩, -⟩ := hS
    have hW := pW_k kk S hkk
    have w0 : S.2.2.2.1 0 = 0 := (hW.1 0 hpos).mpr rfl
    obtain ⟨q1, q2, q3⟩ := c2 ok
    obtain ⟨n1, n2, n3⟩ := m2 ok
    by_cases hv : wi (S.2.2.2.2 0 0) 1 8 = true
    · have e1 : eqS tr (tIs S (E, T, Z) 1) (tIs S (C, tr, Y) 1) := by
        show eqS tr (tIX (S.2.2.2.1 0) (S.2.2.2.2 0) (E, T, Z)) (tIX (S.2.2.2.1 0) (S.2.2.2.2 0) (C, tr, Y))
        rw [w0]
        show eqS tr ((tCo (S.2.2.2.2 0 0) E Z).1, T, (tCo (S.2.2.2.2 0 0) E Z).2) ((tCo (S.2.2.2.2 0 0) C Y).1, tr, (tCo (S.2.2.2.2 0 0) C Y).2)
        unfold tCo
        rw [if_pos hv, if_pos hv]
        exact ⟨_, _, _, _, _, _, 0, _, _, _, _, _, rfl, rfl, fun i hi => absurd hi (Nat.not_lt_zero _), fun i _ => rfl⟩
      have hq : ∀ j, j < S.2.2.1 → refP S (E, T, Z) j = refP S (C, tr, Y) j := fun j hj => by
        cases j with
        | zero =>
          show decide (tIR (S.2.2.2.1 0) (S.2.2.2.2 0) (E, T, Z) < 0) = decide (tIR (S.2.2.2.1 0) (S.2.2.2.2 0) (C, tr, Y) < 0)
          rw [w0]
          show decide (tCoR (S.2.2.2.2 0 0) E < 0) = decide (tCoR (S.2.2.2.2 0 0) C < 0)
          unfold tCoR
          rw [if_pos hv, if_pos hv, decide_eq_false (nI_pos (show E.1 < 2 ^ 31 by have : E.1 ≤ 8 := hB.1; omega)), decide_eq_false (nI_pos (show C.1 < 2 ^ 31 by have := inv_n hA.1; omega))]
        | succ j =>
          have e := (eq_s (v := S.2.2.2.2 (j + 1)) (eq_is hW e1 j (by omega)) (fun e => absurd ((hW.1 (j + 1) hj).mp e) (by omega))).1
          unfold refP
          rw [e]
      have hf := firstN_cg hq
      have ev : rdV S (E, T, Z) = rdV S (C, tr, Y) := by unfold rdV; rw [hf]
      refine ⟨by rw [q1, n1, ev], ?_⟩
      by_cases hL : firstN (refP S (C, tr, Y)) S.2.2.1 < S.2.2.1
      · obtain ⟨rfl, rfl⟩ := q2 (by rw [hf]; exact hL)
        exact ⟨hA, n2 hL, Or.inl ⟨rfl, rfl⟩⟩
      · obtain ⟨rfl, rfl⟩ := q3 (by rw [hf]; exact hL)
        obtain ⟨N, hN⟩ : ∃ N, S.2.2.1 = N + 1 := ⟨S.2.2.1 - 1, by omega⟩
        have hE := eq_is hW e1 N (by omega)
        rw [← hN] at hE
        have hA2 := ia_tIs (S := S) (X := (C, tr, Y)) hA (i := S.2.2.1)
        have hR := n3 hL
        generalize tIs S (E, T, Z) S.2.2.1 = A at hE ⊢
        generalize tIs S (C, tr, Y) S.2.2.1 = B at hE hA2 hR
        obtain ⟨n0, mo, ht, wo, tn, wn, tc, a, a', T1, T2, Y1, rfl, rfl, h1, h2⟩ := hE
        have et : trCpy T1 tr tc = T2 := funext fun j => by
          unfold trCpy
          by_cases hj : j < tc
          · rw [if_pos hj]; exact h1 j hj
          · rw [if_neg hj]; exact (h2 j (by omega)).symm
        show IA (n0, mo, ht, wo, tn, wn, tc, 0, a) (trCpy T1 tr tc) Y1 ∧ Rel b (n0, mo, ht, wo, tn, wn, tc, 0, a) (trCpy T1 tr tc) Y1 0 P ∧ _
        rw [et]
        exact ⟨ia_dc0 hA2, rel_dc0 hR, Or.inr rfl⟩
    · have z : ∀ X : St3, refP S X 0 = true := fun X => by
        show decide (tIR (S.2.2.2.1 0) (S.2.2.2.2 0) X < 0) = true
        rw [w0]
        show decide (tCoR (S.2.2.2.2 0 0) X.1 < 0) = true
        unfold tCoR
        rw [if_neg hv]
        decide
      have f0 : ∀ X : St3, firstN (refP S X) S.2.2.1 = 0 := fun X => firstN_eq (fun j hj => absurd hj (Nat.not_lt_zero _)) (Or.inl ⟨hpos, z X⟩)
      obtain ⟨rfl, rfl⟩ := q2 (by rw [f0]; exact hpos)
      refine ⟨?_, hA, n2 (by rw [f0]; exact hpos), Or.inl ⟨rfl, rfl⟩⟩
      rw [q1, n1]
      unfold rdV
      rw [f0, f0]
  · have ok := Bool.not_eq_true _ ▸ ok
    obtain ⟨q1, rfl, rfl⟩ := c1 ok
    obtain ⟨n1, n2⟩ := m1 ok
    exact ⟨by rw [q1, n1], hA, n2, Or.inl ⟨rfl, rfl⟩⟩
