/-! what the law's loop keeps of a state: its coast, treaties, year and the years that may be undone -/
def KT (tr : Nat → TrV) : Prop := ∀ i, i < 6 → (tr i).1 < 6 ∧ (tr i).2.1 = nI (tr i).1 ∧ tCosts (tr i) = kCosts (tr i).1 (tPrice (tr i))
def JP (C : CoV) (tr : Nat → TrV) (Y : YrV) (pc : Nat) (P : Nat → YrV) : Prop := IA C tr Y ∧ pc ≤ 6 ∧ ∀ q, q < pc → IA C tr (P q)
section JPS
variable {C C' : CoV} {tr tr' T : Nat → TrV} {Y Y' : YrV} {pc : Nat} {P Q : Nat → YrV} {r : Int32} {b : Nat → Int32}
theorem IA.kt (h : IA C tr Y) : KT tr := h.1.2.2.2.2.1
theorem jp_t (h : JP C tr Y pc P) (hi : IA C' tr' Y') (hn : r < 0 → C' = C ∧ tr' = tr) : JP C' tr' Y' (toldP r pc) P := by
  unfold toldP
  by_cases hr : r < 0
  · rw [if_pos hr]
    obtain ⟨rfl, rfl⟩ := hn hr
    exact ⟨hi, h.2⟩
  · rw [if_neg hr]
    exact ⟨hi, by omega, fun q hq => absurd hq (Nat.not_lt_zero _)⟩
theorem jp_undo (h : JP C tr Y (pc + 1) P) : JP C tr (P pc) pc P := ⟨h.2.2 pc (by omega), by have := h.2.1; omega, fun q hq => h.2.2 q (by omega)⟩
theorem kt_cpy {n : Nat} (h : KT tr) (h2 : KT T) : KT (trCpy tr T n) := fun i hi => by
  unfold trCpy
  by_cases e : i < n
  · rw [if_pos e]; exact h i hi
  · rw [if_neg e]; exact h2 i hi
theorem tcp_lt {n i : Nat} (h : i < n) : trCpy tr T n i = tr i := if_pos h
theorem ia_cpy (h : IA C tr Y) (h2 : KT T) : IA C (trCpy tr T C.2.2.2.2.2.2.1) Y := by
  obtain ⟨⟨a1, a2, a3, a4, a5, a6, a7, a8⟩, h3, ⟨b1, b2, b3⟩, h4⟩ := h
  exact ⟨⟨a1, a2, a3, a4, kt_cpy a5 h2, a6, fun i hi => by rw [tcp_lt hi]; exact a7 i hi, a8⟩, h3, ⟨b1, b2, fun i hi => by rw [tcp_lt hi]; exact b3 i hi⟩, h4⟩
theorem ycp_lt {n i : Nat} (h : i < n) : yCpy P Q n i = P i := if_pos h
theorem jp_cpy (h : JP C tr Y pc P) (h2 : KT T) : JP C (trCpy tr T C.2.2.2.2.2.2.1) Y pc (yCpy P Q pc) := ⟨ia_cpy h.1 h2, h.2.1, fun q hq => by rw [ycp_lt hq]; exact ia_cpy (h.2.2 q hq) h2⟩
theorem rel_cpy2 (h : Rel b C tr Y pc P) : Rel b C (trCpy tr T C.2.2.2.2.2.2.1) Y pc (yCpy P Q pc) := by
  obtain ⟨h1, h2, h3, h4, h5, h6⟩ := h
  exact ⟨h1, h2, h3, fun t ht => by rw [tcp_lt (show t < C.2.2.2.2.2.2.1 from ht)]; exact h4 t ht, h5, fun q hq => by rw [ycp_lt hq]; exact h6 q hq⟩
theorem kt_D : KT trD := fun i hi => ⟨show (0 : Nat) < 6 by decide, rfl, rfl⟩
theorem jp_push (h : JP C tr Y pc P) (hi : IA C tr Y') : JP C tr Y' (pastPush Y pc P).1 (pastPush Y pc P).2 := by
  obtain ⟨h1, h2, h3⟩ := h
  unfold pastPush
  by_cases h6 : pc < 6
  · rw [if_pos h6]
    refine ⟨hi, h6, fun q hq => ?_⟩
    have hq2 : q < pc + 1 := hq
    show IA C tr (va_up P pc Y q)
    by_cases e : q = pc
    · subst e; rw [va_up_self]; exact h1
    · rw [va_up_ne _ _ e]; exact h3 q (by omega)
  · rw [if_neg h6]
    refine ⟨hi, Nat.le_refl _, fun q hq => ?_⟩
    have hq2 : q < 6 := hq
    show IA C tr (va_up (rotV P) 5 Y q)
    by_cases e : q = 5
    · subst e; rw [va_up_self]; exact h1
    · rw [va_up_ne _ _ e]
      unfold rotV
      rw [if_pos (by omega)]
      exact h3 (q + 1) (by omega)
theorem jp_run (h : JP C tr Y pc P) {y : Nat} (hy : Y.1 = nI y) (hb : y ≤ 900) : ∀ n, n ≤ 9 → JP C tr (yrsRun C tr Y pc P n).1 (yrsRun C tr Y pc P n).2.1 (yrsRun C tr Y pc P n).2.2 ∧ (yrsRun C tr Y pc P n).1.1 = nI (y + n)
  | 0, _ => ⟨h, hy⟩
  | n + 1, hn => by
    obtain ⟨i1, i2⟩ := jp_run h hy hb n (by omega)
    exact ⟨jp_push i1 (ia_year i1.1 i2 (by omega)), by
      show (coYear C tr (yrsRun C tr Y pc P n).1 _).1 = nI (y + (n + 1))
      rw [coYear_y, i2]
      exact nI_s _⟩
theorem jp_ye (h : JP C tr Y pc P) {n : Int32} : JP C tr (yeS C tr Y pc P n).1 (yeS C tr Y pc P n).2.1 (yeS C tr Y pc P n).2.2 := by
  unfold yeS
  by_cases ok : yeOk Y n = true
  · rw [if_pos ok]
    unfold yeOk at ok
    rw [Bool.and_eq_true] at ok
    obtain ⟨j, hj, rfl⟩ := wi_nat 1 9 ok.1 rfl rfl ⟨by decide, by omega⟩
    obtain ⟨y, hy, hy9⟩ := h.1.2.2.2.2.2
    have h9 : Y.1 ≤ 900 := of_decide_eq_true ok.2
    rw [hy] at h9
    have hb : y ≤ 900 := by
      by_cases q : y ≤ 900
      · exact q
      · exact (nI_leI (b := 900) (show y < 2 ^ 31 by omega) (by decide)).mp h9
    rw [nI_clamp (show j < 2 ^ 31 by omega)]
    exact (jp_run h hy hb j (by omega)).1
  · rw [if_neg ok]
    exact h
end JPS
