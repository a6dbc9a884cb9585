abbrev coSetTc (C : CoV) (n : Nat) : CoV := (C.1, C.2.1, coHt C, coWo C, coTn C, coWn C, n, C.2.2.2.2.2.2.2)
abbrev offT (tr : Nat → TrV) (n : Nat) (a b f t q : Int32) : Nat → TrV := va_up tr n (0, nI 0, a, b, f, t, q, kCosts 0 q)
def keptP (E : CoV) (T : Nat → TrV) (Y : YrV) (n : Nat) (i : Nat) : Bool := !yrBr (runM E T Y (i + 1)) n
theorem hkd_up {T : Nat → TrV} {n : Nat} {t : TrV} (h : ∀ i, i < 6 → (T i).1 < 6) (ht : t.1 < 6) : ∀ i, i < 6 → (va_up T n t i).1 < 6 := fun i hi => by
  by_cases e : i = n
  · subst e; rw [va_up_self]; exact ht
  · rw [va_up_ne _ _ e]; exact h i hi
theorem coPay_congr {T U : Nat → TrV} {Y : YrV} : ∀ {n : Nat}, (∀ i, i < n → T i = U i) → coPay T Y n = coPay U Y n
  | 0, _ => rfl
  | n + 1, h => by rw [coPay, coPay, coPay_congr (fun i hi => h i (by omega)), h n (by omega)]
theorem coGuards_congr {C : CoV} {T U : Nat → TrV} {Y : YrV} {q : Int32} : ∀ {n : Nat}, (∀ i, i < n → T i = U i) → coGuards C T Y q n = coGuards C U Y q n
  | 0, _ => rfl
  | n + 1, h => by rw [coGuards, coGuards, coGuards_congr (fun i hi => h i (by omega)), h n (by omega)]
theorem coFl_congr {C : CoV} {T U : Nat → TrV} {Y : YrV} {q : Int32} (h : ∀ i, i < coTc C → T i = U i) : coFl C T Y q = coFl C U Y q := by
  unfold coFl
  rw [coPay_congr h, coGuards_congr h]
theorem coYear_congr {C : CoV} {T U : Nat → TrV} {Y : YrV} {q : Int32} (h : ∀ i, i < coTc C → T i = U i) : coYear C T Y q = coYear C U Y q := by
  unfold coYear
  rw [coFl_congr h, coPay_congr h]
theorem runM_congr {C : CoV} {T U : Nat → TrV} {Y : YrV} (h : ∀ i, i < coTc C → T i = U i) : ∀ m, runM C T Y m = runM C U Y m
  | 0 => rfl
  | m + 1 => by rw [runM, runM, runM_congr h m, coNext, coNext, coYear_congr h]
theorem popSum_congr {C : CoV} {T U : Nat → TrV} {Y : YrV} (h : ∀ i, i < coTc C → T i = U i) : ∀ m, popSum C T Y m = popSum C U Y m
  | 0 => rfl
  | m + 1 => by rw [popSum, popSum, popSum_congr h m, runM_congr h, coNextF, coNextF, coFl_congr h]
theorem allN_congr {p q : Nat → Bool} : ∀ {n : Nat}, (∀ i, i < n → p i = q i) → allN p n = allN q n
  | 0, _ => rfl
  | n + 1, h => by rw [allN, allN, allN_congr (fun i hi => h i (by omega)), h n (by omega)]
def downTo (p : Nat → Bool) : Nat → Nat
  | 0 => 0
  | q + 1 => if p (q + 1) = true then q + 1 else downTo p q
theorem downTo_eq {p : Nat → Bool} : ∀ {n q : Nat}, (∀ i, q < i → i ≤ n → p i = false) → q ≤ n → (p q = true ∨ q = 0) → downTo p n = q
  | 0, q, _, h2, _ => by rw [downTo]; omega
  | n + 1, q, h, h2, h3 => by
    rw [downTo]
    by_cases e : q = n + 1
    · subst e
      rcases h3 with h3 | h3
      · rw [if_pos h3]
      · omega
    · rw [if_neg (by rw [h (n + 1) (by omega) (Nat.le_refl _)]; exact Bool.false_ne_true)]
      exact downTo_eq (fun i h4 h5 => h i h4 (by omega)) (by omega) h3
def offK (C : CoV) (tr : Nat → TrV) (Y : YrV) (a b : Int32) (m : Nat) (q : Nat) : Bool := allN (keptP (coSetTc C (coTc C + 1)) (offT tr (coTc C) a b Y.1 (Y.1 + nI m) (nI q)) Y (coTc C)) m
def offQ (C : CoV) (tr : Nat → TrV) (Y : YrV) (a b : Int32) (m : Nat) : Nat := downTo (offK C tr Y a b m) 20
def offOk (C : CoV) (a b m w : Int32) : Bool := stCell C a && stCell C b && decide (a ≤ b) && wi m 1 12 && wi w 0 1
def offV (C : CoV) (tr : Nat → TrV) (Y : YrV) (a b : Int32) (m : Nat) (w : Int32) : Int32 := if w = 0 then nI (offQ C tr Y a b m) else popSum C tr Y m - popSum (coSetTc C (coTc C + 1)) (offT tr (coTc C) a b Y.1 (Y.1 + nI m) (nI (offQ C tr Y a b m))) Y m
def offR (C : CoV) (tr : Nat → TrV) (Y : YrV) (a b m w : Int32) : Int32 := if offOk C a b m w = true then (if coTc C < 6 then offV C tr Y a b m.toNatClampNeg w else -2000) else -1000
def offW (V : V3) (C : CoV) (a b m w : Int32) : V3 := if offOk C a b m w = true then (if coTc C < 6 then V else ttRef V (-3)) else ttRef V (-2)
theorem off_agree {tr T : Nat → TrV} {n : Nat} {t : TrV} (h : ∀ i, i < n → T i = tr i) : ∀ i, i < n + 1 → va_up T n t i = va_up tr n t i := fun i hi => by
  by_cases e : i = n
  · subst e; rw [va_up_self, va_up_self]
  · rw [va_up_ne _ _ e, va_up_ne _ _ e]; exact h i (by omega)
theorem offK_eq {C E : CoV} {tr T : Nat → TrV} {Y : YrV} {a b : Int32} {m q : Nat} (hE : ∀ n, coSetTc E n = coSetTc C n) (hT : ∀ i, i < coTc C → T i = tr i) : allN (keptP (coSetTc E (coTc C + 1)) (offT T (coTc C) a b Y.1 (Y.1 + nI m) (nI q)) Y (coTc C)) m = offK C tr Y a b m q := by
  unfold offK
  rw [hE]
  refine allN_congr fun i hi => ?_
  unfold keptP
  rw [runM_congr (C := coSetTc C (coTc C + 1)) (off_agree hT)]
theorem off_end {C E : CoV} {tr T : Nat → TrV} {Y : YrV} {V : V3} {a b w r : Int32} {m q : Nat} {R : CoV × (Nat → TrV) × YrV} (hok : offOk C a b (nI m) w = true) (hm : m < 2 ^ 31) (htc : coTc C < 6) (hE : ∀ n, coSetTc E n = coSetTc C n) (hT : ∀ i, i < coTc C → T i = tr i) (hp : ∀ i, q < i → i ≤ 20 → offK C tr Y a b m i = false) (hq : q ≤ 20) (hk : offK C tr Y a b m q = true ∨ q = 0) (hr : (w = 0 ∧ r = nI q) ∨ (¬ w = 0 ∧ r = popSum C tr Y m - popSum (coSetTc E (coTc C + 1)) (offT T (coTc C) a b Y.1 (Y.1 + nI m) (nI q)) Y m)) : r = offR C tr Y a b (nI m) w ∧ ((V, R) : V3 × CoV × (Nat → TrV) × YrV).1 = offW V C a b (nI m) w := by
  have e : offQ C tr Y a b m = q := downTo_eq hp hq hk
  unfold offR offW offV
  rw [if_pos hok, if_pos htc, if_pos hok, if_pos htc, nI_clamp hm, e]
  refine ⟨?_, rfl⟩
  rcases hr with h | h
  · rw [if_pos h.1]; exact h.2
  · rw [if_neg h.1, h.2, hE, popSum_congr (C := coSetTc C (coTc C + 1)) (off_agree hT)]
theorem off_hU {tr U : Nat → TrV} {n : Nat} {t : TrV} (h : ∀ i, i < n → U i = tr i) : ∀ i, i < n → va_up U n t i = tr i := fun i hi => by
  rw [va_up_ne _ _ (by omega)]; exact h i hi
theorem off_hp {p : Nat → Bool} {q : Nat} (h : ∀ i, q < i → i ≤ 20 → p i = false) (hq : p q = false) (h0 : ¬ q ≤ 0) : ∀ i, q - 1 < i → i ≤ 20 → p i = false := fun i h1 h2 => by
  by_cases e : i = q
  · subst e; exact hq
  · exact h i (by omega) h2
theorem trCpy_lt {a b : Nat → TrV} {n : Nat} : ∀ i, i < n → trCpy a b n i = a i := fun i hi => by unfold trCpy; rw [if_pos hi]
theorem trCpy_kd {a b : Nat → TrV} {n : Nat} (ha : ∀ i, i < 6 → (a i).1 < 6) (hb : ∀ i, i < 6 → (b i).1 < 6) : ∀ i, i < 6 → (trCpy a b n i).1 < 6 := fun i hi => by
  unfold trCpy
  split
  · exact ha i hi
  · exact hb i hi
theorem off_bad1 {C : CoV} {tr T : Nat → TrV} {Y : YrV} {V : V3} {a b m w : Int32} {R : CoV × (Nat → TrV) × YrV} (h : offOk C a b m w = false) : (-1000 : Int32) = offR C tr Y a b m w ∧ ((ttRef V (-2), R) : V3 × CoV × (Nat → TrV) × YrV).1 = offW V C a b m w := by
  unfold offR offW
  rw [h]
  exact ⟨rfl, rfl⟩
theorem off_bad2 {C : CoV} {tr : Nat → TrV} {Y : YrV} {V : V3} {a b m w : Int32} {R : CoV × (Nat → TrV) × YrV} (h : offOk C a b m w = true) (h2 : ¬ coTc C < 6) : (-2000 : Int32) = offR C tr Y a b m w ∧ ((ttRef V (-3), R) : V3 × CoV × (Nat → TrV) × YrV).1 = offW V C a b m w := by
  unfold offR offW
  rw [h, if_pos rfl, if_neg h2, if_pos rfl, if_neg h2]
  exact ⟨rfl, rfl⟩
