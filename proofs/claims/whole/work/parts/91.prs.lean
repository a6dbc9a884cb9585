/-- the text, read token by token: the same for both sides -/
def isL (c : Int32) : Bool := wi c 97 122
def isF (c : Int32) : Bool := wi c 48 57
def runE (P : Nat → Bool) (q : Nat) : Nat → Nat
  | 0 => q
  | k + 1 => if P q = true then runE P (q + 1) k else q
theorem runE_eq {P : Nat → Bool} : ∀ {k q r : Nat}, q ≤ r → r ≤ q + k → (∀ i, q ≤ i → i < r → P i = true) → (r = q + k ∨ P r = false) → runE P q k = r
  | 0, q, r, h1, h2, _, _ => by show q = r; omega
  | k + 1, q, r, h1, h2, h3, h4 => by
    rw [runE]
    by_cases e : q = r
    · subst e
      rcases h4 with h4 | h4
      · omega
      · rw [if_neg (by rw [h4]; exact Bool.false_ne_true)]
    · rw [if_pos (h3 q (Nat.le_refl _) (by omega))]
      exact runE_eq (by omega) (by omega) (fun i a b => h3 i (by omega) b) (by rcases h4 with h4 | h4; exact Or.inl (by omega); exact Or.inr h4)
theorem runE_le {P : Nat → Bool} : ∀ {k q : Nat}, q ≤ runE P q k ∧ runE P q k ≤ q + k
  | 0, q => ⟨Nat.le_refl _, Nat.le_refl _⟩
  | k + 1, q => by
    have := runE_le (P := P) (k := k) (q := q + 1)
    rw [runE]
    split <;> omega
theorem runE_in {P : Nat → Bool} : ∀ {k q i : Nat}, q ≤ i → i < runE P q k → P i = true
  | 0, q, i, h1, h2 => by rw [runE] at h2; omega
  | k + 1, q, i, h1, h2 => by
    rw [runE] at h2
    split at h2
    · rename_i h
      by_cases e : q = i
      · subst e; exact h
      · exact runE_in (by omega) h2
    · omega
theorem runE_st {P : Nat → Bool} {k q : Nat} (h : P q = true) (hk : 0 < k) : q < runE P q k := by
  obtain ⟨k, rfl⟩ : ∃ j, k = j + 1 := ⟨k - 1, by omega⟩
  have := runE_le (P := P) (k := k) (q := q + 1)
  rw [runE, if_pos h]
  omega
theorem runE_out {P : Nat → Bool} : ∀ {k q : Nat}, runE P q k < q + k → P (runE P q k) = false
  | 0, q, h => by rw [runE] at h; omega
  | k + 1, q, h => by
    rw [runE] at h ⊢
    split
    · rename_i e
      rw [if_pos e] at h
      exact runE_out (by omega)
    · rename_i e
      simpa using e
def nxt (g : Nat → Int32) (n p : Nat) : Nat := runE (fun i => decide (g i = 32)) p (n - p)
def wE (g : Nat → Int32) (n q : Nat) : Nat := runE (fun i => isL (g i)) q (n - q)
def fE (g : Nat → Int32) (n q : Nat) : Nat := runE (fun i => isF (g i)) q (n - q)
theorem nxt_le {g : Nat → Int32} {n p : Nat} (h : p ≤ n) : p ≤ nxt g n p ∧ nxt g n p ≤ n := by
  have := runE_le (P := fun i => decide (g i = 32)) (k := n - p) (q := p)
  show p ≤ runE _ p (n - p) ∧ runE _ p (n - p) ≤ n
  omega
theorem wE_le {g : Nat → Int32} {n q : Nat} (h : q < n) (hl : isL (g q) = true) : q < wE g n q ∧ wE g n q ≤ n := by
  have := runE_le (P := fun i => isL (g i)) (k := n - q) (q := q)
  have h2 := runE_st (P := fun i => isL (g i)) (k := n - q) (q := q) hl (by omega)
  show q < runE _ q (n - q) ∧ runE _ q (n - q) ≤ n
  omega
theorem fE_le {g : Nat → Int32} {n q : Nat} (h : q < n) (hl : isF (g q) = true) : q < fE g n q ∧ fE g n q ≤ n := by
  have := runE_le (P := fun i => isF (g i)) (k := n - q) (q := q)
  have h2 := runE_st (P := fun i => isF (g i)) (k := n - q) (q := q) hl (by omega)
  show q < runE _ q (n - q) ∧ runE _ q (n - q) ≤ n
  omega
theorem nxt_eq {g : Nat → Int32} {n p r : Nat} (h1 : p ≤ r) (h2 : r ≤ n) (h3 : ∀ i, p ≤ i → i < r → g i = 32) (h4 : r = n ∨ ¬ g r = 32) : nxt g n p = r := by
  refine runE_eq h1 (by omega) (fun i a b => decide_eq_true (h3 i a b)) ?_
  rcases h4 with h4 | h4
  · exact Or.inl (by omega)
  · exact Or.inr (decide_eq_false h4)
theorem wE_eq {g : Nat → Int32} {n p r : Nat} (h1 : p ≤ r) (h2 : r ≤ n) (h3 : ∀ i, p ≤ i → i < r → isL (g i) = true) (h4 : r = n ∨ isL (g r) = false) : wE g n p = r := by
  refine runE_eq h1 (by omega) h3 ?_
  rcases h4 with h4 | h4
  · exact Or.inl (by omega)
  · exact Or.inr h4
theorem fE_eq {g : Nat → Int32} {n p r : Nat} (h1 : p ≤ r) (h2 : r ≤ n) (h3 : ∀ i, p ≤ i → i < r → isF (g i) = true) (h4 : r = n ∨ isF (g r) = false) : fE g n p = r := by
  refine runE_eq h1 (by omega) h3 ?_
  rcases h4 with h4 | h4
  · exact Or.inl (by omega)
  · exact Or.inr h4
def wdL : Nat → List Int32
  | 0 => [99, 111, 97, 115, 116]
  | 1 => [99, 101, 108, 108]
  | 2 => [100, 105, 107, 101]
  | 3 => [119, 97, 110, 116]
  | 4 => [109, 111, 111, 110]
  | _ => [116, 114, 101, 97, 116, 121]
def spl (w : List Int32) (g : Nat → Int32) (q e : Nat) : Bool := decide (e - q = w.length) && allN (fun i => decide (g (q + i) = w.getD i 0)) w.length
/-- which word stands from q to e; 6: none -/
def wIx (g : Nat → Int32) (q e : Nat) : Nat := if spl (wdL 0) g q e = true then 0 else if spl (wdL 1) g q e = true then 1 else if spl (wdL 2) g q e = true then 2 else if spl (wdL 3) g q e = true then 3 else if spl (wdL 4) g q e = true then 4 else if spl (wdL 5) g q e = true then 5 else 6
def nbN (w : Nat) : Nat := if w = 1 then 4 else if w = 5 then 6 else if w = 2 ∨ w = 3 then 2 else 1
theorem wdL_4 : ∀ w, 4 ≤ (wdL w).length
  | 0 => by decide
  | 1 => by decide
  | 2 => by decide
  | 3 => by decide
  | 4 => by decide
  | _ + 5 => by show 4 ≤ [(116 : Int32), 114, 101, 97, 116, 121].length; decide
/-- a word that is one has four letters or more -/
theorem wIx_4 {g : Nat → Int32} {q e : Nat} (h : wIx g q e < 6) : 4 ≤ e - q := by
  have k : ∀ w, spl (wdL w) g q e = true → 4 ≤ e - q := by
    intro w hs
    unfold spl at hs
    have h1 : e - q = (wdL w).length := of_decide_eq_true (Bool.and_eq_true_iff.mp hs).1
    have h2 := wdL_4 w
    omega
  unfold wIx at h
  by_cases h0 : spl (wdL 0) g q e = true
  · exact k 0 h0
  by_cases h1 : spl (wdL 1) g q e = true
  · exact k 1 h1
  by_cases h2 : spl (wdL 2) g q e = true
  · exact k 2 h2
  by_cases h3 : spl (wdL 3) g q e = true
  · exact k 3 h3
  by_cases h4 : spl (wdL 4) g q e = true
  · exact k 4 h4
  by_cases h5 : spl (wdL 5) g q e = true
  · exact k 5 h5
  rw [if_neg h0, if_neg h1, if_neg h2, if_neg h3, if_neg h4, if_neg h5] at h
  omega
theorem nbN_le (w : Nat) : 1 ≤ nbN w ∧ nbN w ≤ 6 := by
  unfold nbN
  by_cases h1 : w = 1
  · rw [if_pos h1]; omega
  · rw [if_neg h1]
    by_cases h2 : w = 5
    · rw [if_pos h2]; omega
    · rw [if_neg h2]
      by_cases h3 : w = 2 ∨ w = 3
      · rw [if_pos h3]; omega
      · rw [if_neg h3]; omega
def nVal (g : Nat → Int32) (q : Nat) : Nat → Int32
  | 0 => 0
  | k + 1 => 10 * nVal g q k + g (q + k) - 48
/-- place; 0: a word is due, k + 1: k numbers; items; their words; their numbers -/
abbrev PS : Type := Nat × Nat × Nat × (Nat → Nat) × (Nat → Nat → Int32)
def pStep (g : Nat → Int32) (n : Nat) (S : PS) : Option PS :=
  if nxt g n S.1 < n then
    (if isL (g (nxt g n S.1)) = true then
      (if S.2.1 = 0 ∧ wIx g (nxt g n S.1) (wE g n (nxt g n S.1)) < 6 ∧ (wIx g (nxt g n S.1) (wE g n (nxt g n S.1)) = 0 ↔ S.2.2.1 = 0) then
        some (wE g n (nxt g n S.1), nbN (wIx g (nxt g n S.1) (wE g n (nxt g n S.1))) + 1, S.2.2.1, va_up S.2.2.2.1 S.2.2.1 (wIx g (nxt g n S.1) (wE g n (nxt g n S.1))), S.2.2.2.2) else none)
    else if isF (g (nxt g n S.1)) = true then
      (if 2 ≤ S.2.1 ∧ fE g n (nxt g n S.1) - nxt g n S.1 ≤ 2 then
        some (fE g n (nxt g n S.1), S.2.1 - 1, S.2.2.1, S.2.2.2.1, va_up S.2.2.2.2 S.2.2.1 (va_up (S.2.2.2.2 S.2.2.1) (nbN (S.2.2.2.1 S.2.2.1) + 1 - S.2.1) (nVal g (nxt g n S.1) (fE g n (nxt g n S.1) - nxt g n S.1)))) else none)
    else if g (nxt g n S.1) = 59 ∧ S.2.1 = 1 then some (nxt g n S.1 + 1, 0, S.2.2.1 + 1, S.2.2.2.1, S.2.2.2.2) else none)
  else none
def ps0 : PS := (0, 0, 0, fun _ => 0, fun _ _ => 0)
def pRun (g : Nat → Int32) (n : Nat) : Nat → Option PS
  | 0 => some ps0
  | k + 1 => (pRun g n k).bind (pStep g n)
def pR (g : Nat → Int32) (n : Nat) (S : PS) : Prop := ∃ k, pRun g n k = some S
def pEnd (g : Nat → Int32) (n : Nat) (S : PS) : Prop := pR g n S ∧ pStep g n S = none
def pOk (g : Nat → Int32) (n : Nat) (S : PS) : Bool := decide (n ≤ nxt g n S.1) && (decide (S.2.1 = 0) && decide (0 < S.2.2.1))
theorem pRun_none {g : Nat → Int32} {n k : Nat} (h : pRun g n k = none) : ∀ j, k ≤ j → pRun g n j = none := by
  intro j
  induction j with
  | zero => intro hj; rw [show k = 0 by omega] at h; exact h
  | succ j ih =>
    intro hj
    by_cases e : k = j + 1
    · rw [← e]; exact h
    · rw [pRun, ih (by omega)]; rfl
theorem pEnd_u {g : Nat → Int32} {n : Nat} {S T : PS} (h1 : pEnd g n S) (h2 : pEnd g n T) : S = T := by
  obtain ⟨⟨i, hi⟩, hi2⟩ := h1
  obtain ⟨⟨j, hj⟩, hj2⟩ := h2
  have ei : pRun g n (i + 1) = none := by rw [pRun, hi]; exact hi2
  have ej : pRun g n (j + 1) = none := by rw [pRun, hj]; exact hj2
  rcases Nat.lt_trichotomy i j with h | h | h
  · rw [pRun_none ei j (by omega)] at hj; exact absurd hj (by simp)
  · subst h; rw [hi] at hj; exact Option.some.inj hj
  · rw [pRun_none ej i (by omega)] at hi; exact absurd hi (by simp)
theorem pR_s {g : Nat → Int32} {n : Nat} {S T : PS} (h : pR g n S) (hs : pStep g n S = some T) : pR g n T := by
  obtain ⟨k, hk⟩ := h
  exact ⟨k + 1, by rw [pRun, hk]; exact hs⟩
theorem ps_w {g : Nat → Int32} {n q : Nat} {S : PS} (eq : nxt g n S.1 = q) (hq : q < n) (hl : isL (g q) = true) : pStep g n S = if S.2.1 = 0 ∧ wIx g q (wE g n q) < 6 ∧ (wIx g q (wE g n q) = 0 ↔ S.2.2.1 = 0) then some (wE g n q, nbN (wIx g q (wE g n q)) + 1, S.2.2.1, va_up S.2.2.2.1 S.2.2.1 (wIx g q (wE g n q)), S.2.2.2.2) else none := by
  unfold pStep
  rw [eq, if_pos hq, if_pos hl]
theorem ps_f {g : Nat → Int32} {n q : Nat} {S : PS} (eq : nxt g n S.1 = q) (hq : q < n) (hl : isL (g q) = false) (hf : isF (g q) = true) : pStep g n S = if 2 ≤ S.2.1 ∧ fE g n q - q ≤ 2 then some (fE g n q, S.2.1 - 1, S.2.2.1, S.2.2.2.1, va_up S.2.2.2.2 S.2.2.1 (va_up (S.2.2.2.2 S.2.2.1) (nbN (S.2.2.2.1 S.2.2.1) + 1 - S.2.1) (nVal g q (fE g n q - q)))) else none := by
  unfold pStep
  rw [eq, if_pos hq, if_neg (by rw [hl]; exact Bool.false_ne_true), if_pos hf]
theorem ps_o {g : Nat → Int32} {n q : Nat} {S : PS} (eq : nxt g n S.1 = q) (hq : q < n) (hl : isL (g q) = false) (hf : isF (g q) = false) : pStep g n S = if g q = 59 ∧ S.2.1 = 1 then some (q + 1, 0, S.2.2.1 + 1, S.2.2.2.1, S.2.2.2.2) else none := by
  unfold pStep
  rw [eq, if_pos hq, if_neg (by rw [hl]; exact Bool.false_ne_true), if_neg (by rw [hf]; exact Bool.false_ne_true)]
theorem ps_e {g : Nat → Int32} {n : Nat} {S : PS} (h : ¬ nxt g n S.1 < n) : pStep g n S = none := by
  unfold pStep
  rw [if_neg h]
/-- what every state on the way keeps -/
def pI (n : Nat) (S : PS) : Prop := S.1 ≤ n ∧ ((S.2.1 = 0 ∧ 6 * S.2.2.1 ≤ S.1) ∨ (1 ≤ S.2.1 ∧ S.2.2.2.1 S.2.2.1 < 6 ∧ S.2.1 ≤ nbN (S.2.2.2.1 S.2.2.1) + 1 ∧ 6 * S.2.2.1 + 4 + (nbN (S.2.2.2.1 S.2.2.1) + 1 - S.2.1) ≤ S.1)) ∧ ∀ i, i < S.2.2.1 → S.2.2.2.1 i < 6
theorem pI_s {g : Nat → Int32} {n : Nat} {S T : PS} (h : pI n S) (hs : pStep g n S = some T) : pI n T := by
  obtain ⟨h1, h2, h3⟩ := h
  have hx := nxt_le (g := g) h1
  by_cases hq : nxt g n S.1 < n
  · by_cases hl : isL (g (nxt g n S.1)) = true
    · rw [ps_w rfl hq hl] at hs
      split at hs
      · rename_i hc
        have hw := wE_le hq hl
        have hw4 := wIx_4 hc.2.1
        have e := Option.some.inj hs
        subst e
        refine ⟨hw.2, Or.inr ⟨by show 1 ≤ nbN _ + 1; omega, ?_, ?_, ?_⟩, fun i hi => ?_⟩
        · show va_up _ _ _ _ < 6; rw [va_up_self]; exact hc.2.1
        · show nbN _ + 1 ≤ nbN (va_up _ _ _ _) + 1; rw [va_up_self]; exact Nat.le_refl _
        · show 6 * S.2.2.1 + 4 + (nbN (va_up _ _ _ _) + 1 - (nbN _ + 1)) ≤ wE g n (nxt g n S.1)
          rw [va_up_self]
          rcases h2 with h2 | h2
          · omega
          · omega
        · show va_up _ _ _ i < 6; have hi2 : i < S.2.2.1 := hi; rw [va_up_ne _ _ (by omega)]; exact h3 i hi
      · exact absurd hs (by simp)
    · have hl : isL (g (nxt g n S.1)) = false := by simpa using hl
      by_cases hf : isF (g (nxt g n S.1)) = true
      · rw [ps_f rfl hq hl hf] at hs
        split at hs
        · rename_i hc
          have hw := fE_le hq hf
          have e := Option.some.inj hs
          subst e
          rcases h2 with h2 | ⟨a1, a2, a3, a4⟩
          · omega
          · refine ⟨hw.2, Or.inr ⟨by show 1 ≤ S.2.1 - 1; omega, a2, by show S.2.1 - 1 ≤ nbN (S.2.2.2.1 S.2.2.1) + 1; omega, ?_⟩, h3⟩
            show 6 * S.2.2.1 + 4 + (nbN (S.2.2.2.1 S.2.2.1) + 1 - (S.2.1 - 1)) ≤ fE g n (nxt g n S.1)
            omega
        · exact absurd hs (by simp)
      · have hf : isF (g (nxt g n S.1)) = false := by simpa using hf
        rw [ps_o rfl hq hl hf] at hs
        split at hs
        · rename_i hc
          have e := Option.some.inj hs
          subst e
          rcases h2 with h2 | ⟨a1, a2, a3, a4⟩
          · omega
          · have hb := nbN_le (S.2.2.2.1 S.2.2.1)
            refine ⟨by show nxt g n S.1 + 1 ≤ n; omega, Or.inl ⟨rfl, by show 6 * (S.2.2.1 + 1) ≤ nxt g n S.1 + 1; omega⟩, fun i hi => ?_⟩
            have hi2 : i < S.2.2.1 + 1 := hi
            by_cases e : i = S.2.2.1
            · subst e; exact a2
            · exact h3 i (by omega)
        · exact absurd hs (by simp)
  · rw [ps_e hq] at hs; exact absurd hs (by simp)
theorem pR_I {g : Nat → Int32} {n : Nat} {S : PS} (h : pR g n S) : pI n S := by
  obtain ⟨k, hk⟩ := h
  induction k generalizing S with
  | zero =>
    have e := Option.some.inj hk
    subst e
    exact ⟨Nat.zero_le _, Or.inl ⟨rfl, Nat.le_refl _⟩, fun i hi => absurd hi (Nat.not_lt_zero _)⟩
  | succ k ih =>
    rw [pRun] at hk
    cases e : pRun g n k with
    | none => rw [e] at hk; exact absurd hk (by simp)
    | some T => rw [e] at hk; exact pI_s (ih e) hk
