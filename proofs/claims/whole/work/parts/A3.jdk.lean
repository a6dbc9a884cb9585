theorem len_sh : ∀ i, i < 6 → nI (lenA.getD i 0) >>> (nI 0 &&& 31) = nI (lenA.getD i 0) := by decide +kernel
theorem len_w : ∀ i, i < 6 → lenA.getD i 0 = (wdL i).length := by decide +kernel
theorem len_6 : ∀ i, i < 6 → 1 ≤ lenA.getD i 0 ∧ lenA.getD i 0 ≤ 6 := by decide +kernel
theorem ch_w : ∀ i, i < 6 → ∀ k, k < 6 → ((((bytA.getD i []).getD k 0) &&& 255).toUInt32 % 65536).toInt32 = (wdL i).getD k 0 := by decide +kernel
theorem ch_n : ∀ i, i < 6 → ∀ k, k < 6 → narrow .char (.int ((wdL i).getD k 0)) = .int ((wdL i).getD k 0) := by decide +kernel
theorem narB : narrow .byte (.int (nI 0)) = .int (nI 0) := by decide
theorem allN_t {p : Nat → Bool} : ∀ {n : Nat}, (∀ i, i < n → p i = true) → allN p n = true
  | 0, _ => rfl
  | n + 1, h => by rw [allN, allN_t (fun i hi => h i (by omega)), h n (by omega)]; rfl
theorem sp_len {w : List Int32} {g : Nat → Int32} {q e : Nat} (h : ¬ w.length = e - q) : spl w g q e = false := by
  unfold spl; rw [decide_eq_false (fun z => h z.symm)]; rfl
theorem sp_no {w : List Int32} {g : Nat → Int32} {q e j : Nat} (hl : w.length = e - q) (h1 : q ≤ j) (h2 : j < e) (h : ¬ g j = w.getD (j - q) 0) : spl w g q e = false := by
  unfold spl
  rw [allN_f (i := j - q) (by omega) (by rw [show q + (j - q) = j by omega]; exact decide_eq_false h), Bool.and_false]
theorem sp_ys {w : List Int32} {g : Nat → Int32} {q e : Nat} (hl : w.length = e - q) (h : ∀ x, q ≤ x → x < e → g x = w.getD (x - q) 0) : spl w g q e = true := by
  unfold spl
  rw [decide_eq_true hl.symm, allN_t (fun i hi => decide_eq_true (by have := h (q + i) (by omega) (by omega); rw [show q + i - q = i by omega] at this; exact this))]; rfl
theorem sp_s {w : List Int32} {g : Nat → Int32} {q j : Nat} (h : ∀ x, q ≤ x → x < j → g x = w.getD (x - q) 0) (c : g j = w.getD (j - q) 0) : ∀ x, q ≤ x → x < j + 1 → g x = w.getD (x - q) 0 := fun x h1 h2 => by
  by_cases e : x = j
  · subst e; exact c
  · exact h x h1 (by omega)
