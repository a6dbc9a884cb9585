def cB (q : Int32) : Nat → Nat
  | 0 => 0
  | w + 1 => if hasB q w = true then cB q w + 1 else cB q w
theorem mix5 {b : Nat → Int32} {C : CoV} {tr : Nat → TrV} {Y : YrV} {pc : Nat} {P : Nat → YrV} {h : Int64} (r : Rel b C tr Y pc P) : ∀ {n : Nat}, n ≤ 8 → mixF (fun k => b (15 + k)) h (5 * n) = stMixC C Y h n
  | 0, _ => rfl
  | n + 1, hn => by
    have ih := mix5 (h := h) r (n := n) (by omega)
    have hx : n < 8 := by omega
    rw [show 5 * (n + 1) = 5 * n + 1 + 1 + 1 + 1 + 1 by omega, mixF, mixF, mixF, mixF, mixF, stMixC, ih]
    have e0 : b (15 + (5 * n)) = coHt C n := r.c0 hx
    have e1 : b (15 + (5 * n + 1)) = coWo C n := (congrArg b (by omega)).trans (r.c1 hx)
    have e2 : b (15 + (5 * n + 1 + 1)) = coTn C n := (congrArg b (by omega)).trans (r.c2 hx)
    have e3 : b (15 + (5 * n + 1 + 1 + 1)) = Y.2.2.2.1 n := (congrArg b (by omega)).trans (r.c3 hx)
    have e4 : b (15 + (5 * n + 1 + 1 + 1 + 1)) = Y.2.2.2.2 n := (congrArg b (by omega)).trans (r.c4 hx)
    rw [e0, e1, e2, e3, e4]
theorem mix7 {b : Nat → Int32} {C : CoV} {tr : Nat → TrV} {Y : YrV} {pc : Nat} {P : Nat → YrV} {h : Int64} (r : Rel b C tr Y pc P) (hI : Inv C tr Y) : ∀ {n : Nat}, n ≤ C.2.2.2.2.2.2.1 → mixF (fun k => b (55 + k)) h (7 * n) = stMixT tr Y h n
  | 0, _ => rfl
  | n + 1, hn => by
    have ih := mix7 (h := h) r hI (n := n) (by omega)
    have hx : n < C.2.2.2.2.2.2.1 := by omega
    have htc := inv_tc hI
    rw [show 7 * (n + 1) = 7 * n + 1 + 1 + 1 + 1 + 1 + 1 + 1 by omega, mixF, mixF, mixF, mixF, mixF, mixF, mixF, stMixT, ih]
    have e0 : b (55 + (7 * n)) = (tr n).2.1 := (r.t0 hx).trans (inv_kk hI (by omega))
    have e1 : b (55 + (7 * n + 1)) = tFrom (tr n) := (congrArg b (by omega)).trans (r.t1 hx)
    have e2 : b (55 + (7 * n + 1 + 1)) = tTo (tr n) := (congrArg b (by omega)).trans (r.t2 hx)
    have e3 : b (55 + (7 * n + 1 + 1 + 1)) = tFirst (tr n) := (congrArg b (by omega)).trans (r.t3 hx)
    have e4 : b (55 + (7 * n + 1 + 1 + 1 + 1)) = tTill (tr n) := (congrArg b (by omega)).trans (r.t4 hx)
    have e5 : b (55 + (7 * n + 1 + 1 + 1 + 1 + 1)) = tPrice (tr n) := (congrArg b (by omega)).trans (r.t5 hx)
    have e6 : b (55 + (7 * n + 1 + 1 + 1 + 1 + 1 + 1)) = bI (yrBr Y n) := (congrArg b (by omega)).trans (r.t6 hx)
    rw [e0, e1, e2, e3, e4, e5, e6]
theorem mix3 {b : Nat → Int32} {C : CoV} {tr : Nat → TrV} {Y : YrV} {pc : Nat} {P : Nat → YrV} {h : Int64} (r : Rel b C tr Y pc P) : ∀ {n : Nat}, n ≤ C.2.2.2.2.2.2.2.1 → mixF (fun k => b (97 + k)) h (3 * n) = coMixT C h n
  | 0, _ => rfl
  | n + 1, hn => by
    have ih := mix3 (h := h) r (n := n) (by omega)
    have hx : n < C.2.2.2.2.2.2.2.1 := by omega
    rw [show 3 * (n + 1) = 3 * n + 1 + 1 + 1 by omega, mixF, mixF, mixF, coMixT, ih]
    have e0 : b (97 + (3 * n)) = coTw C n := r.d0 hx
    have e1 : b (97 + (3 * n + 1)) = coTd C n := (congrArg b (by omega)).trans (r.d1 hx)
    have e2 : b (97 + (3 * n + 1 + 1)) = coTv C n := (congrArg b (by omega)).trans (r.d2 hx)
    rw [e0, e1, e2]
theorem mix8 {b : Nat → Int32} {C : CoV} {tr : Nat → TrV} {Y : YrV} {pc : Nat} {P : Nat → YrV} {h : Int64} (r : Rel b C tr Y pc P) : ∀ {n : Nat}, n ≤ 8 → mixF (fun k => b (7 + k)) h n = mixF (coWn C) h n
  | 0, _ => rfl
  | n + 1, hn => by
    rw [mixF, mixF, mix8 (h := h) r (n := n) (by omega)]
    have e0 : b (7 + n) = coWn C n := r.wn (by omega)
    rw [e0]
theorem bit1_all : ∀ n, n < 9 → bit n - 1 = nI (2 ^ n - 1) := by decide +kernel
theorem cells_nat {q : Int32} {n : Nat} (h : wi q 0 (bit n - 1) = true) (hn : n ≤ 8) : ∃ j : Nat, j < 256 ∧ q = nI j := by
  rw [bit1_all n (by omega)] at h
  have h2 : 2 ^ n ≤ 2 ^ 8 := Nat.pow_le_pow_right (by decide) hn
  obtain ⟨j, hj, e⟩ := wi_nat 0 (2 ^ n - 1) h rfl rfl ⟨by decide, by omega⟩
  exact ⟨j, by omega, e⟩
theorem li_all : ∀ j, j < 256 → ∀ x, x < 7 → nI j >>> nI (x + 2) = 0 → ((nI j >>> nI x) &&& 3 = 0 ↔ nI j >>> nI x = 0) := by decide +kernel
theorem li_sh : ∀ x, x < 7 → (nI (x + 2) - 2 &&& 31) = nI x := by decide +kernel
theorem li_0 {j x : Nat} (h : ¬ nI j >>> nI x = 0) : liF (nI j) x = false := by unfold liF; rw [decide_eq_false h]; rfl
theorem li_1 {j x : Nat} (h : nI j >>> nI x = 0) (h2 : x < 2) : liF (nI j) x = true := by unfold liF; rw [decide_eq_true h, decide_eq_true h2]; rfl
theorem li_2 {j x : Nat} (hj : j < 256) (hx : x ≤ 8) (h : nI j >>> nI x = 0) (h2 : ¬ x < 2) (h3 : ¬ (nI j >>> (nI x - 2 &&& 31)) &&& 3 = 0) : liF (nI j) x = true := by
  obtain ⟨y, rfl⟩ : ∃ y, x = y + 2 := ⟨x - 2, by omega⟩
  rw [li_sh y (by omega)] at h3
  unfold liF
  rw [decide_eq_true h, decide_eq_false h2, li_sh y (by omega), decide_eq_false (fun q => h3 ((li_all j hj y (by omega) h).mpr q))]; rfl
theorem li_3 {j x : Nat} (hj : j < 256) (hx : x ≤ 8) (h : nI j >>> nI x = 0) (h2 : ¬ x < 2) (h3 : (nI j >>> (nI x - 2 &&& 31)) &&& 3 = 0) : liF (nI j) x = false := by
  obtain ⟨y, rfl⟩ : ∃ y, x = y + 2 := ⟨x - 2, by omega⟩
  rw [li_sh y (by omega)] at h3
  unfold liF
  rw [decide_eq_true h, decide_eq_false h2, li_sh y (by omega), decide_eq_true ((li_all j hj y (by omega) h).mp h3)]; rfl
def InvD (C : CoV) : Prop := ∀ j, j < C.2.2.2.2.2.2.2.1 → coTv C j = 0 ∨ coTv C j = 1
theorem and1_01 (s : Int32) : s &&& 1 = 0 ∨ s &&& 1 = 1 := by
  have h : (s &&& 1).toBitVec = s.toBitVec &&& 1#32 := by rw [Int32.toBitVec_and]; rfl
  by_cases e : s.toBitVec.getLsbD 0 = true
  · right; apply Int32.toBitVec_inj.mp; rw [h]
    apply BitVec.eq_of_getLsbD_eq; intro i hi
    rw [BitVec.getLsbD_and]
    cases i with
    | zero => rw [e]; rfl
    | succ i => simp [BitVec.getLsbD_one]
  · left; apply Int32.toBitVec_inj.mp; rw [h]
    apply BitVec.eq_of_getLsbD_eq; intro i hi
    rw [BitVec.getLsbD_and]
    cases i with
    | zero => rw [Bool.eq_false_iff.mpr e]; simp
    | succ i => simp [BitVec.getLsbD_one]
theorem fi_1 {p : Nat → Bool} {t : Nat} {a : Bool} (ha : a = allN p t) (h : a = false) : false = allN p (t + 1) := by rw [allN, ← ha, h]; rfl
theorem fi_2 {C : CoV} {k q : Int32} {t : Nat} {a : Bool} (ha : a = allN (coFit1 C k q) t) (h : a = true) (h2 : ¬ C.2.2.2.2.2.2.2.2.1 t = k) : true = allN (coFit1 C k q) (t + 1) := by
  rw [allN, ← ha, h, Bool.true_and]; unfold coFit1; rw [show coTw C t = C.2.2.2.2.2.2.2.2.1 t from rfl, decide_eq_false h2]; rfl
theorem fi_3 {C : CoV} {k q : Int32} {t : Nat} {a : Bool} (hv : q >>> (coTd C t &&& 31) &&& 1 = coTv C t) (ha : a = allN (coFit1 C k q) t) (h : a = true) : true = allN (coFit1 C k q) (t + 1) := by
  rw [allN, ← ha, h, Bool.true_and]; unfold coFit1; rw [decide_eq_true hv]; simp
theorem fi_4 {C : CoV} {k q : Int32} {t : Nat} {a : Bool} (hv : ¬ q >>> (coTd C t &&& 31) &&& 1 = coTv C t) (ha : a = allN (coFit1 C k q) t) (h2 : C.2.2.2.2.2.2.2.2.1 t = k) : false = allN (coFit1 C k q) (t + 1) := by
  rw [allN]; unfold coFit1; rw [show coTw C t = C.2.2.2.2.2.2.2.2.1 t from rfl, decide_eq_true h2, decide_eq_false hv]; simp
theorem fi_e {C : CoV} {s : Int32} {t : Nat} (hD : InvD C) (ht : t < C.2.2.2.2.2.2.2.1) : (s &&& 1 = coTv C t) ↔ (decide (s &&& 1 = 1) = decide (coTv C t = 1)) := by
  rcases hD t ht with e | e <;> rcases and1_01 s with e2 | e2 <;> rw [e, e2] <;> decide
section FB
variable {b : Nat → Int32} {C : CoV} {tr : Nat → TrV} {Y : YrV} {pc : Nat} {P : Nat → YrV} {k q : Int32} {t : Nat} {a : Bool}
theorem fb_2 (hr : Rel b C tr Y pc P) (ht : t < C.2.2.2.2.2.2.2.1) (ha : a = allN (coFit1 C k q) t) (h : a = true) (c : ¬ b (97 + 3 * t) = k) : true = allN (coFit1 C k q) (t + 1) :=
  fi_2 ha h (fun e => c ((hr.d0 ht).trans e))
theorem fb_v (hr : Rel b C tr Y pc P) (hD : InvD C) (ht : t < C.2.2.2.2.2.2.2.1) : (q >>> (coTd C t &&& 31) &&& 1 = coTv C t) ↔ (decide (q >>> (b (97 + 3 * t + 1) &&& 31) &&& 1 = 1) = decide (b (97 + 3 * t + 2) = 1)) := by
  rw [hr.d1 ht, hr.d2 ht]; exact fi_e hD ht
theorem fb_y (hr : Rel b C tr Y pc P) (hD : InvD C) (ht : t < C.2.2.2.2.2.2.2.1) (ha : a = allN (coFit1 C k q) t) (h : a = true) (x : Bool) (c : decide (b (97 + 3 * t + 2) = 1) = x) (e : decide (q >>> (b (97 + 3 * t + 1) &&& 31) &&& 1 = 1) = x) : true = allN (coFit1 C k q) (t + 1) :=
  fi_3 ((fb_v hr hD ht).mpr (e.trans c.symm)) ha h
theorem fb_n (hr : Rel b C tr Y pc P) (hD : InvD C) (ht : t < C.2.2.2.2.2.2.2.1) (ha : a = allN (coFit1 C k q) t) (h : b (97 + 3 * t) = k) (x : Bool) (c : decide (b (97 + 3 * t + 2) = 1) = x) (e : decide (q >>> (b (97 + 3 * t + 1) &&& 31) &&& 1 = 1) = !x) : false = allN (coFit1 C k q) (t + 1) :=
  fi_4 (fun h2 => by have := (fb_v hr hD ht).mp h2; rw [c, e] at this; cases x <;> cases this) ha ((hr.d0 ht).symm.trans h)
end FB
theorem bI_n1 {x : Bool} (h : ¬ bI x = 1) : x = false := by cases x with
  | false => rfl
  | true => exact absurd rfl h
