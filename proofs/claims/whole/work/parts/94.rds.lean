def itG (T : Nat → Int32) (S : PS) (m : Nat) : Prop := ∀ i, i < m → T (7 * i) = nI (S.2.2.2.1 i) ∧ ∀ k, k < nbN (S.2.2.2.1 i) → T (7 * i + 1 + k) = S.2.2.2.2 i k
/-- the reference's reading, ahead of an item -/
def rdO (g : Nat → Int32) (M : MoV) (T : Nat → Int32) (N : MoV) : Prop := ∃ S, pR g M.2.1 S ∧ S.2.1 = 0 ∧ S.2.2.1 = N.2.2.2.2.2.2 ∧ (N.1 = M.1 ∧ N.2.1 = M.2.1) ∧ tokG g M.2.1 S.1 N ∧ itG T S S.2.2.1
/-- .. in an item with the word w, k numbers of which are read -/
def rdI (g : Nat → Int32) (M : MoV) (T : Nat → Int32) (N : MoV) (w k p0 : Nat) : Prop := ∃ S, pR g M.2.1 S ∧ (S.2.1 + k = nbN w + 1 ∧ k ≤ nbN w) ∧ S.2.2.1 = N.2.2.2.2.2.2 ∧ S.2.2.2.1 S.2.2.1 = w ∧ (N.1 = M.1 ∧ N.2.1 = M.2.1) ∧ tokG g M.2.1 S.1 N ∧ itG T S S.2.2.1 ∧ (T (7 * S.2.2.1) = nI w ∧ ∀ j, j < k → T (7 * S.2.2.1 + 1 + j) = S.2.2.2.2 S.2.2.1 j) ∧ p0 ≤ S.1
def rdE (g : Nat → Int32) (M : MoV) (r : Int32) (N : MoV) (T : Nat → Int32) : Prop := ∃ S, pEnd g M.2.1 S ∧ r = bI (pOk g M.2.1 S) ∧ N.2.2.2.1 = nxt g M.2.1 S.1 ∧ (N.1 = M.1 ∧ N.2.1 = M.2.1) ∧ (pOk g M.2.1 S = true → N.2.2.2.2.2.2 = S.2.2.1 ∧ itG T S S.2.2.1)
section RDS
variable {g T : Nat → Int32} {M N N2 : MoV} {n p w k p0 : Nat} {S : PS}
theorem tok_b (h : tokG g n p N) : N.2.2.2.2.1 < 10 := by
  rcases h.2 with h | h | h | h
  · omega
  · rcases h.2.2.2 with q | q <;> omega
  · rcases h.2.2.2.2 with q | q <;> omega
  · rcases h.2.2.2.2 with q | q <;> omega
theorem tok_p (h : tokG g n p N) (hp : p ≤ n) : p ≤ N.2.2.1 ∧ N.2.2.1 ≤ n := by
  have hx := nxt_le (g := g) hp
  rcases h.2 with h | h | h | h
  · omega
  · have := wE_le h.1 h.2.1; omega
  · have := fE_le h.1 h.2.2.1; omega
  · omega
theorem rdO_b (h : rdO g M T N) : N.2.2.2.2.1 < 10 ∧ 3 * N.2.2.2.2.2.2 ≤ M.2.1 ∧ N.2.2.1 ≤ M.2.1 ∧ N.2.1 = M.2.1 ∧ N.1 = M.1 := by
  obtain ⟨S, h1, h2, h3, h4, h5, h6⟩ := h
  obtain ⟨i1, i2, i3⟩ := pR_I h1
  refine ⟨tok_b h5, ?_, (tok_p h5 i1).2, h4.2, h4.1⟩
  rcases i2 with i2 | i2 <;> omega
theorem rdI_b (h : rdI g M T N w k p0) : N.2.2.2.2.1 < 10 ∧ 3 * N.2.2.2.2.2.2 + 1 ≤ M.2.1 ∧ N.2.2.1 ≤ M.2.1 ∧ N.2.1 = M.2.1 ∧ N.1 = M.1 ∧ k ≤ nbN w ∧ p0 ≤ N.2.2.1 ∧ (N.2.2.2.2.1 = 2 → 3 * N.2.2.2.2.2.2 + 1 + k < M.2.1) := by
  obtain ⟨S, h1, h2, h3, h4, h5, h6, h7, h8, h9⟩ := h
  obtain ⟨i1, i2, i3⟩ := pR_I h1
  have hp := tok_p h6 i1
  have hx := nxt_le (g := g) i1
  rcases i2 with i2 | ⟨a1, a2, a3, a4⟩
  · omega
  · rw [h4] at a3 a4
    refine ⟨tok_b h6, by omega, hp.2, h5.2, h5.1, h2.2, by omega, fun ht => ?_⟩
    rcases h6.2 with q | q | q | q
    · omega
    · rcases q.2.2.2 with q2 | q2 <;> omega
    · omega
    · rcases q.2.2.2.2 with q2 | q2 <;> omega
theorem rd_0 {N : MoV} (h1 : N.1 = M.1) (h2 : N.2.1 = M.2.1) (h3 : N.2.2.2.2.2.2 = 0) (h : tokG g M.2.1 0 N) : rdO g M T N :=
  ⟨ps0, ⟨0, rfl⟩, rfl, h3.symm, ⟨h1, h2⟩, h, fun i hi => absurd hi (Nat.not_lt_zero _)⟩
theorem rd_w {vb : Int32} (h : rdO g M T N) (e : vb = nI N.2.2.2.2.1 - 4) (c : ¬ vb < 0) : ∃ w, (w < 6 ∧ N.2.2.2.2.1 = 4 + w) ∧ vb = nI w := by
  obtain ⟨S, h1, h2, h3, h4, h5, h6⟩ := h
  have key : ∀ t, t < 4 → ¬ (nI t - 4 : Int32) < 0 → False := by
    intro t ht
    rcases (show t = 0 ∨ t = 1 ∨ t = 2 ∨ t = 3 by omega) with rfl | rfl | rfl | rfl
    · exact fun q => q (by decide)
    · exact fun q => q (by decide)
    · exact fun q => q (by decide)
    · exact fun q => q (by decide)
  have hb := tok_b h5
  by_cases q : N.2.2.2.2.1 < 4
  · rw [e] at c; exact absurd c (key _ q)
  · refine ⟨N.2.2.2.2.1 - 4, ⟨by omega, by omega⟩, ?_⟩
    rw [e]; exact pk_sub (b := 4) (by omega)
theorem tok_w (h : tokG g n p N) (ht : N.2.2.2.2.1 = 4 + w) : nxt g n p < n ∧ isL (g (nxt g n p)) = true ∧ N.2.2.1 = wE g n (nxt g n p) ∧ wIx g (nxt g n p) (wE g n (nxt g n p)) = w := by
  rcases h.2 with q | q | q | q
  · omega
  · refine ⟨q.1, q.2.1, q.2.2.1, ?_⟩
    rcases q.2.2.2 with q2 | q2 <;> omega
  · rcases q.2.2.2.2 with q2 | q2 <;> omega
  · rcases q.2.2.2.2 with q2 | q2 <;> omega
theorem ok_f (h : nxt g n S.1 < n) : pOk g n S = false := by unfold pOk; rw [decide_eq_false (by omega)]; rfl
theorem ok_d (h : ¬ S.2.1 = 0) : pOk g n S = false := by unfold pOk; rw [decide_eq_false h, Bool.false_and, Bool.and_false]
theorem rdE_f (hS : pR g M.2.1 S) (hn : pStep g M.2.1 S = none) (hk : pOk g M.2.1 S = false) (h5 : tokG g M.2.1 S.1 N) (h4 : N.1 = M.1 ∧ N.2.1 = M.2.1) : rdE g M (nI 0) N T :=
  ⟨S, ⟨hS, hn⟩, by rw [hk]; rfl, h5.1, h4, fun h => by rw [hk] at h; exact absurd h (by decide)⟩
theorem rd_f1 {vb : Int32} (h : rdO g M T N) (e : vb = nI N.2.2.2.2.1 - 4) (c : vb < 0) (hz : N.2.2.2.2.1 = 0 → N.2.2.2.2.2.2 = 0) : rdE g M (nI 0) N T := by
  obtain ⟨S, h1, h2, h3, h4, h5, h6⟩ := h
  have key : ∀ t, 4 ≤ t → t < 10 → ¬ (nI t - 4 : Int32) < 0 := by
    intro t ht1 ht2
    rw [show (nI t - 4 : Int32) = nI (t - 4) from pk_sub (b := 4) ht1]
    exact nI_pos (by omega)
  have hb := tok_b h5
  rw [e] at c
  have h4t : N.2.2.2.2.1 < 4 := Nat.lt_of_not_le fun q => key _ q hb c
  rcases h5.2 with q | q | q | q
  · refine rdE_f h1 (ps_e (by omega)) ?_ h5 h4
    have : S.2.2.1 = 0 := by rw [h3]; exact hz q.2.1
    unfold pOk
    rw [decide_eq_false (show ¬ 0 < S.2.2.1 by omega), Bool.and_false, Bool.and_false]
  · refine rdE_f h1 ?_ (ok_f q.1) h5 h4
    rw [ps_w rfl q.1 q.2.1, if_neg]
    intro z
    rcases q.2.2.2 with q2 | q2 <;> omega
  · refine rdE_f h1 ?_ (ok_f q.1) h5 h4
    rw [ps_f rfl q.1 q.2.1 q.2.2.1, if_neg]
    intro z; omega
  · refine rdE_f h1 ?_ (ok_f q.1) h5 h4
    rw [ps_o rfl q.1 q.2.1 q.2.2.1, if_neg]
    intro z; omega
theorem rd_f2 (h : rdO g M T N) (ht : N.2.2.2.2.1 = 4 + w) (hm : ¬ (w = 0 ↔ N.2.2.2.2.2.2 = 0)) : rdE g M (nI 0) N T := by
  obtain ⟨S, h1, h2, h3, h4, h5, h6⟩ := h
  obtain ⟨a1, a2, a3, a4⟩ := tok_w h5 ht
  refine rdE_f h1 ?_ (ok_f a1) h5 h4
  rw [ps_w rfl a1 a2, if_neg]
  intro z
  rw [a4, h3] at z
  exact hm z.2.2
theorem rd_t (h : rdO g M T N) (h0 : N.2.2.2.2.1 = 0) (hm : ¬ N.2.2.2.2.2.2 = 0) : rdE g M (nI 1) N T := by
  obtain ⟨S, h1, h2, h3, h4, h5, h6⟩ := h
  have hn : M.2.1 ≤ nxt g M.2.1 S.1 := by
    rcases h5.2 with q | q | q | q
    · exact q.1
    · rcases q.2.2.2 with q2 | q2 <;> omega
    · rcases q.2.2.2.2 with q2 | q2 <;> omega
    · rcases q.2.2.2.2 with q2 | q2 <;> omega
  have hk : pOk g M.2.1 S = true := by
    unfold pOk
    rw [decide_eq_true hn, decide_eq_true h2, decide_eq_true (show 0 < S.2.2.1 by omega)]; rfl
  exact ⟨S, ⟨h1, ps_e (by omega)⟩, by rw [hk]; rfl, h5.1, h4, fun _ => ⟨h3.symm, h6⟩⟩
theorem rd_i (h : rdO g M T N) (ht : N.2.2.2.2.1 = 4 + w) (hw : w < 6) (hm : w = 0 ↔ N.2.2.2.2.2.2 = 0) (h2a : N2.1 = N.1) (h2b : N2.2.1 = N.2.1) (h2c : N2.2.2.2.2.2.2 = N.2.2.2.2.2.2) (hT2 : tokG g N.2.1 N.2.2.1 N2) : rdI g M (upd T (7 * N.2.2.2.2.2.2) (nI w)) N2 w 0 N.2.2.1 := by
  obtain ⟨S, h1, h2, h3, h4, h5, h6⟩ := h
  obtain ⟨a1, a2, a3, a4⟩ := tok_w h5 ht
  have hs : pStep g M.2.1 S = some (wE g M.2.1 (nxt g M.2.1 S.1), nbN w + 1, S.2.2.1, va_up S.2.2.2.1 S.2.2.1 w, S.2.2.2.2) := by
    rw [ps_w rfl a1 a2, a4, if_pos ⟨h2, hw, by rw [h3]; exact hm⟩]
  refine ⟨_, pR_s h1 hs, ⟨rfl, Nat.zero_le _⟩, by rw [h2c]; exact h3, va_up_self _ _ _, ⟨h2a.trans h4.1, h2b.trans h4.2⟩, ?_, ?_, ⟨?_, fun j hj => absurd hj (Nat.not_lt_zero _)⟩, by show N.2.2.1 ≤ wE g M.2.1 (nxt g M.2.1 S.1); omega⟩
  · rw [h4.2, a3] at hT2; exact hT2
  · intro i hi
    have hi2 : i < S.2.2.1 := hi
    show upd T _ _ (7 * i) = nI (va_up S.2.2.2.1 S.2.2.1 w i) ∧ ∀ k, k < nbN (va_up S.2.2.2.1 S.2.2.1 w i) → upd T _ _ (7 * i + 1 + k) = S.2.2.2.2 i k
    rw [va_up_ne _ _ (by omega)]
    have hb := nbN_le (S.2.2.2.1 i)
    exact ⟨by rw [pk_un (by omega)]; exact (h6 i hi2).1, fun k hk => by rw [pk_un (by omega)]; exact (h6 i hi2).2 k hk⟩
  · show upd T _ _ (7 * S.2.2.1) = nI w
    rw [h3, pk_us]
theorem rd_n (h : rdI g M T N w k p0) (ht : N.2.2.2.2.1 = 2) (hk : k < nbN w) (h2a : N2.1 = N.1) (h2b : N2.2.1 = N.2.1) (h2c : N2.2.2.2.2.2.2 = N.2.2.2.2.2.2) (hT2 : tokG g N.2.1 N.2.2.1 N2) : rdI g M (upd T (7 * N.2.2.2.2.2.2 + 1 + k) (nI N.2.2.2.2.2.1)) N2 w (k + 1) p0 := by
  obtain ⟨S, h1, h2, h3, h4, h5, h6, h7, h8, h9⟩ := h
  have hx := nxt_le (g := g) (pR_I h1).1
  rcases h6.2 with q | q | q | q
  · omega
  · rcases q.2.2.2 with q2 | q2 <;> omega
  · obtain ⟨q1, q2, q3, q4, q5⟩ := q
    have hf := fE_le q1 q3
    have q6 : fE g M.2.1 (nxt g M.2.1 S.1) - nxt g M.2.1 S.1 ≤ 2 ∧ nI N.2.2.2.2.2.1 = nVal g (nxt g M.2.1 S.1) (fE g M.2.1 (nxt g M.2.1 S.1) - nxt g M.2.1 S.1) := by
      rcases q5 with q5 | q5
      · omega
      · exact ⟨q5.1, q5.2.2⟩
    have hs : pStep g M.2.1 S = some (fE g M.2.1 (nxt g M.2.1 S.1), S.2.1 - 1, S.2.2.1, S.2.2.2.1, va_up S.2.2.2.2 S.2.2.1 (va_up (S.2.2.2.2 S.2.2.1) k (nI N.2.2.2.2.2.1))) := by
      rw [ps_f rfl q1 q2 q3, if_pos ⟨by omega, q6.1⟩, q6.2, h4, show nbN w + 1 - S.2.1 = k by omega]
    refine ⟨_, pR_s h1 hs, ⟨by show S.2.1 - 1 + (k + 1) = _; omega, by omega⟩, by rw [h2c]; exact h3, h4, ⟨h2a.trans h5.1, h2b.trans h5.2⟩, ?_, ?_, ⟨?_, ?_⟩, by show p0 ≤ fE g M.2.1 (nxt g M.2.1 S.1); omega⟩
    · rw [h5.2, q4] at hT2; exact hT2
    · intro i hi
      have hi2 : i < S.2.2.1 := hi
      show upd T _ _ (7 * i) = nI (S.2.2.2.1 i) ∧ ∀ j, j < nbN (S.2.2.2.1 i) → upd T _ _ (7 * i + 1 + j) = va_up S.2.2.2.2 S.2.2.1 _ i j
      rw [va_up_ne _ _ (by omega)]
      have hb := nbN_le (S.2.2.2.1 i)
      exact ⟨by rw [pk_un (by omega)]; exact (h7 i hi2).1, fun j hj => by rw [pk_un (by omega)]; exact (h7 i hi2).2 j hj⟩
    · show upd T _ _ (7 * S.2.2.1) = nI w
      rw [pk_un (by omega)]; exact h8.1
    · intro j hj
      show upd T _ _ (7 * S.2.2.1 + 1 + j) = va_up S.2.2.2.2 S.2.2.1 _ S.2.2.1 j
      rw [va_up_self]
      by_cases e : j = k
      · subst e; rw [va_up_self, h3, pk_us]
      · rw [va_up_ne _ _ e, pk_un (by omega)]; exact h8.2 j (by omega)
  · rcases q.2.2.2.2 with q2 | q2 <;> omega
theorem rd_f3 (h : rdI g M T N w k p0) (ht : ¬ N.2.2.2.2.1 = 2) (hk : k < nbN w) : rdE g M (nI 0) N T := by
  obtain ⟨S, h1, h2, h3, h4, h5, h6, h7, h8, h9⟩ := h
  refine rdE_f h1 ?_ (ok_d (by omega)) h6 h5
  rcases h6.2 with q | q | q | q
  · exact ps_e (by omega)
  · rw [ps_w rfl q.1 q.2.1, if_neg]
    intro z; omega
  · rw [ps_f rfl q.1 q.2.1 q.2.2.1, if_neg]
    intro z
    rcases q.2.2.2.2 with q2 | q2 <;> omega
  · rw [ps_o rfl q.1 q.2.1 q.2.2.1, if_neg]
    intro z; omega
theorem rd_f4 (h : rdI g M T N w k p0) (ht : ¬ N.2.2.2.2.1 = 3) (hk : k = nbN w) : rdE g M (nI 0) N T := by
  obtain ⟨S, h1, h2, h3, h4, h5, h6, h7, h8, h9⟩ := h
  refine rdE_f h1 ?_ (ok_d (by omega)) h6 h5
  rcases h6.2 with q | q | q | q
  · exact ps_e (by omega)
  · rw [ps_w rfl q.1 q.2.1, if_neg]
    intro z; omega
  · rw [ps_f rfl q.1 q.2.1 q.2.2.1, if_neg]
    intro z; omega
  · rw [ps_o rfl q.1 q.2.1 q.2.2.1, if_neg]
    intro z
    rcases q.2.2.2.2 with q2 | q2
    · omega
    · exact q2.1 z.1
theorem rd_s (h : rdI g M T N w k p0) (ht : N.2.2.2.2.1 = 3) (hk : k = nbN w) (h2a : N2.1 = N.1) (h2b : N2.2.1 = N.2.1) (h2c : N2.2.2.2.2.2.2 = N.2.2.2.2.2.2 + 1) (hT2 : tokG g N.2.1 N.2.2.1 N2) : rdO g M T N2 ∧ p0 < N2.2.2.1 := by
  obtain ⟨S, h1, h2, h3, h4, h5, h6, h7, h8, h9⟩ := h
  have hx := nxt_le (g := g) (pR_I h1).1
  rcases h6.2 with q | q | q | q
  · omega
  · rcases q.2.2.2 with q2 | q2 <;> omega
  · rcases q.2.2.2.2 with q2 | q2 <;> omega
  · obtain ⟨q1, q2, q3, q4, q5⟩ := q
    have q6 : g (nxt g M.2.1 S.1) = 59 := by
      rcases q5 with q5 | q5
      · exact q5.1
      · omega
    have hs : pStep g M.2.1 S = some (nxt g M.2.1 S.1 + 1, 0, S.2.2.1 + 1, S.2.2.2.1, S.2.2.2.2) := by
      rw [ps_o rfl q1 q2 q3, if_pos ⟨q6, by omega⟩]
    have hT3 : tokG g M.2.1 (nxt g M.2.1 S.1 + 1) N2 := by rw [h5.2, q4] at hT2; exact hT2
    have hp := tok_p hT3 (by omega)
    refine ⟨⟨_, pR_s h1 hs, rfl, by rw [h2c, ← h3], ⟨h2a.trans h5.1, h2b.trans h5.2⟩, hT3, ?_⟩, by omega⟩
    intro i hi
    have hi2 : i < S.2.2.1 + 1 := hi
    by_cases e : i = S.2.2.1
    · subst e
      refine ⟨by rw [h8.1]; show nI w = nI (S.2.2.2.1 S.2.2.1); rw [h4], fun j hj => h8.2 j ?_⟩
      have hj2 : j < nbN (S.2.2.2.1 S.2.2.1) := hj
      rw [h4] at hj2
      omega
    · exact h7 i (by omega)
end RDS
theorem rd_ix {g T : Nat → Int32} {M N : MoV} {w : Nat} (h : rdO g M T N) (ht : N.2.2.2.2.1 = 4 + w) (hl : M.2.1 ≤ 150) : 7 * N.2.2.2.2.2.2 < 350 := by
  obtain ⟨S, h1, h2, h3, h4, h5, h6⟩ := h
  obtain ⟨a1, a2, a3, a4⟩ := tok_w h5 ht
  obtain ⟨i1, i2, i3⟩ := pR_I h1
  have hx := nxt_le (g := g) i1
  rcases i2 with i2 | i2 <;> omega
