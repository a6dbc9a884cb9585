theorem ps_inc {g : Nat → Int32} {n : Nat} {S T : PS} (h : S.1 ≤ n) (hs : pStep g n S = some T) : S.1 < T.1 := by
  have hx := nxt_le (g := g) h
  by_cases hq : nxt g n S.1 < n
  · by_cases hl : isL (g (nxt g n S.1)) = true
    · rw [ps_w rfl hq hl] at hs
      have hw := wE_le hq hl
      split at hs
      · have e := Option.some.inj hs
        subst e
        show S.1 < wE g n (nxt g n S.1); omega
      · exact absurd hs (by simp)
    · have hl : isL (g (nxt g n S.1)) = false := by simpa using hl
      by_cases hf : isF (g (nxt g n S.1)) = true
      · rw [ps_f rfl hq hl hf] at hs
        have hw := fE_le hq hf
        split at hs
        · have e := Option.some.inj hs
          subst e
          show S.1 < fE g n (nxt g n S.1); omega
        · exact absurd hs (by simp)
      · have hf : isF (g (nxt g n S.1)) = false := by simpa using hf
        rw [ps_o rfl hq hl hf] at hs
        split at hs
        · have e := Option.some.inj hs
          subst e
          show S.1 < nxt g n S.1 + 1; omega
        · exact absurd hs (by simp)
  · rw [ps_e hq] at hs; exact absurd hs (by simp)
section PAR
variable {L L1 u : ScV} {S : PS} {k : Nat} {r : Int32}
theorem pa_s (e1 : L1.1 = L.1) (e2 : L1.2.2.2.2.1 = L.2.2.2.2.1) (hS : pR L.2.2.2.2.1 L.1 S) (hk : k ≤ S.1) (h : tkP L1.2.2.2.2.1 L1.1 S r u) (hr : ¬ r = 0) : paI L u (k + 1) := by
  rw [e1, e2] at h
  rcases h.2 with q | q
  · obtain ⟨-, T, h1, h2, h3⟩ := q
    have := ps_inc (pR_I hS).1 h1
    exact ⟨h.1, T, pR_s hS h1, h2, h3, by omega⟩
  · exact absurd q.1 hr
theorem pa_no (e1 : L1.1 = L.1) (e2 : L1.2.2.2.2.1 = L.2.2.2.2.1) (hS : pR L.2.2.2.2.1 L.1 S) (hq : nxt L.2.2.2.2.1 L.1 S.1 < L.1) (h : tkP L1.2.2.2.2.1 L1.1 S r u) (hr : r = 0) : paE L (nI (nxt L.2.2.2.2.1 L.1 S.1)) u := by
  rw [e1, e2] at h
  refine ⟨h.1, S, ⟨hS, ?_⟩, by rw [ok_f hq]; rfl, fun z => by rw [ok_f hq] at z; exact absurd z (by decide)⟩
  rcases h.2 with q | q
  · rw [hr] at q; exact absurd q.1 (by decide)
  · exact q.2
theorem pa_t (hu : u.1 = L.1 ∧ u.2.2.2.2.1 = L.2.2.2.2.1) (hS : pR L.2.2.2.2.1 L.1 S) (hR : scR u S) (hn : L.1 ≤ nxt L.2.2.2.2.1 L.1 S.1) (hd : u.2.2.2.1 = -1) (hi : ¬ u.2.1 ≤ 0) (hb : S.2.1 < 1000) : paE L (-1) u := by
  have hk : pOk L.2.2.2.2.1 L.1 S = true := by
    unfold pOk
    rw [decide_eq_true hn, decide_eq_true ((dI_0 hb).mp (hR.2.1.symm.trans hd)), decide_eq_true (show 0 < S.2.2.1 by rw [← hR.1]; omega)]; rfl
  exact ⟨hu, S, ⟨hS, ps_e (by omega)⟩, by rw [hk]; rfl, fun _ => hR⟩
theorem pa_f (hu : u.1 = L.1 ∧ u.2.2.2.2.1 = L.2.2.2.2.1) (hS : pR L.2.2.2.2.1 L.1 S) (hR : scR u S) (hn : L.1 ≤ nxt L.2.2.2.2.1 L.1 S.1) (h : ¬ u.2.2.2.1 = -1 ∨ u.2.1 ≤ 0) (hb : S.2.1 < 1000) : paE L (nI u.1) u := by
  have hx := nxt_le (g := L.2.2.2.2.1) (pR_I hS).1
  have hk : pOk L.2.2.2.2.1 L.1 S = false := by
    unfold pOk
    rcases h with h | h
    · rw [decide_eq_false (fun z => h (hR.2.1.trans ((dI_0 hb).mpr z))), Bool.false_and, Bool.and_false]
    · rw [decide_eq_false (show ¬ 0 < S.2.2.1 by rw [← hR.1]; omega), Bool.and_false, Bool.and_false]
  refine ⟨hu, S, ⟨hS, ps_e (by omega)⟩, ?_, fun z => by rw [hk] at z; exact absurd z (by decide)⟩
  rw [hk, if_neg Bool.false_ne_true, hu.1, show nxt L.2.2.2.2.1 L.1 S.1 = L.1 by omega]
theorem pI_d {n : Nat} (h : pI n S) : S.2.1 < 1000 := by
  rcases h.2.1 with z | z
  · omega
  · have := nbN_le (S.2.2.2.1 S.2.2.1); omega
theorem nxt_n {g : Nat → Int32} {n p : Nat} (h : p ≤ n) (h2 : n ≤ p) : n ≤ nxt g n p := by
  have := nxt_le (g := g) h; omega
end PAR
/-- what the trial keeps: enough for telling it anything -/
def tB (X : St3) : Prop := X.1.1 ≤ 8 ∧ X.1.2.2.2.2.2.2.1 ≤ 6 ∧ ∀ i, i < 6 → (X.2.1 i).1 < 6
theorem tB_s {w : Nat} {v : Nat → Int32} {X : St3} (h : tB X) : tB (tIX w v X) := by
  obtain ⟨h1, h2, h3⟩ := h
  unfold tIX
  split
  · refine ⟨?_, ?_, h3⟩
    · show (tCo (v 0) X.1 X.2.2).1.1 ≤ 8
      unfold tCo
      split
      · rename_i c
        obtain ⟨j, hj, e⟩ := wi_nat 1 8 c rfl rfl (by decide)
        show (v 0).toNatClampNeg ≤ 8
        rw [e, nI_clamp (by omega)]; omega
      · exact h1
    · show (tCo (v 0) X.1 X.2.2).1.2.2.2.2.2.2.1 ≤ 6
      unfold tCo
      split
      · exact Nat.zero_le _
      · exact h2
  · split
    · refine ⟨?_, ?_, h3⟩
      · show (tCe X.1 X.2.2 (v 0) (v 1) (v 2) (v 3)).1.1 ≤ 8
        unfold tCe
        split
        · exact h1
        · exact h1
      · show (tCe X.1 X.2.2 (v 0) (v 1) (v 2) (v 3)).1.2.2.2.2.2.2.1 ≤ 6
        unfold tCe
        split
        · exact h2
        · exact h2
    · split
      · exact ⟨h1, h2, h3⟩
      · split
        · refine ⟨?_, ?_, h3⟩
          · show (tWa X.1 (v 0) (v 1)).1 ≤ 8
            unfold tWa
            split
            · exact h1
            · exact h1
          · show (tWa X.1 (v 0) (v 1)).2.2.2.2.2.2.1 ≤ 6
            unfold tWa
            split
            · exact h2
            · exact h2
        · split
          · refine ⟨?_, ?_, h3⟩
            · show (tMo X.1 (v 0)).1 ≤ 8
              unfold tMo
              split
              · exact h1
              · exact h1
            · show (tMo X.1 (v 0)).2.2.2.2.2.2.1 ≤ 6
              unfold tMo
              split
              · exact h2
              · exact h2
          · show tB ((tTr X.1 X.2.1 (v 0) (v 1) (v 2) (v 3) (v 4) (v 5)).1, (tTr X.1 X.2.1 (v 0) (v 1) (v 2) (v 3) (v 4) (v 5)).2, X.2.2)
            unfold tTr
            split
            · rename_i ok
              unfold coAdd
              split
              · rename_i c6
                have c6' : X.1.2.2.2.2.2.2.1 < 6 := c6
                refine ⟨h1, c6', fun i hi => ?_⟩
                show (va_up X.2.1 X.1.2.2.2.2.2.2.1 _ i).1 < 6
                by_cases e : i = X.1.2.2.2.2.2.2.1
                · subst e
                  rw [va_up_self]
                  unfold okTr at ok
                  simp only [Bool.and_eq_true, decide_eq_true_eq] at ok
                  obtain ⟨j, hj, e⟩ := wi_nat 0 5 ok.1.1.1.1.1.1 rfl rfl (by decide)
                  show (v 0).toNatClampNeg < 6
                  rw [e, nI_clamp (by omega)]; omega
                · rw [va_up_ne _ _ e]; exact h3 i hi
              · exact ⟨h1, h2, h3⟩
            · exact ⟨h1, h2, h3⟩
theorem tB_is {S : PS} {X : St3} (h : tB X) : ∀ {i : Nat}, tB (tIs S X i)
  | 0 => h
  | i + 1 => tB_s (tB_is h (i := i))
