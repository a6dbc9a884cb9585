/-- cells behind the coast are not lost; no treaty that isn't there is breached -/
def InvY (C : CoV) (Y : YrV) : Prop := (∀ x, C.1 ≤ x → x < 8 → yrLost Y x = false) ∧ ∀ i, C.2.2.2.2.2.2.1 ≤ i → Y.2.2.1.toBitVec.getLsbD i = false
theorem coPay_r {tr : Nat → TrV} {Y : YrV} : ∀ {t : Nat}, (coPay tr Y t).2.2.2 = Y.2.2.2
  | 0 => rfl
  | t + 1 => by
    have ih := coPay_r (tr := tr) (Y := Y) (t := t)
    rw [coPay]
    repeat' split
    all_goals exact ih
theorem coPay_b {tr : Nat → TrV} {Y : YrV} {i : Nat} : ∀ {t : Nat}, t ≤ i → t ≤ 16 → (coPay tr Y t).2.2.1.toBitVec.getLsbD i = Y.2.2.1.toBitVec.getLsbD i
  | 0, _, _ => rfl
  | t + 1, h, h2 => by
    have ih := coPay_b (tr := tr) (Y := Y) (i := i) (t := t) (by omega) (by omega)
    rw [coPay]
    split
    · split
      · exact ih
      · show ((coPay tr Y t).2.2.1 ||| bit t).toBitVec.getLsbD i = _
        rw [Int32.toBitVec_or, BitVec.getLsbD_or, bit_bv (by omega), BitVec.getLsbD_twoPow, ih]
        have : ¬ t = i := by omega
        simp [this]
    · exact ih
theorem coRun_b {C : CoV} {fl : Int32} {Y : YrV} : ∀ {x : Nat}, (coRun C fl Y x).1.2.2.1 = Y.2.2.1
  | 0 => rfl
  | x + 1 => by
    have ih := coRun_b (C := C) (fl := fl) (Y := Y) (x := x)
    rw [coRun]
    repeat' split
    all_goals exact ih
theorem coRun_f {C : CoV} {fl : Int32} {Y : YrV} {z : Nat} : ∀ {x : Nat}, x ≤ z → (coRun C fl Y x).1.2.2.2.2 z = Y.2.2.2.2 z
  | 0, _ => rfl
  | x + 1, h => by
    have ih := coRun_f (C := C) (fl := fl) (Y := Y) (z := z) (x := x) (by omega)
    rw [coRun]
    split
    · show (upd (coRun C fl Y x).1.2.2.2.2 x _) z = _
      rw [pk_un (by omega)]; exact ih
    · split
      · exact ih
      · exact ih
theorem invY_year {C : CoV} {tr : Nat → TrV} {Y : YrV} {q : Int32} (h : InvY C Y) (htc : C.2.2.2.2.2.2.1 ≤ 6) : InvY C (coYear C tr Y q) := by
  refine ⟨fun x h1 h2 => ?_, fun i hi => ?_⟩
  · have e : (coYear C tr Y q).2.2.2.2 x = Y.2.2.2.2 x := by
      show (coRun C (coFl C tr Y q) (coPay tr Y (coTc C)) (coN C)).1.2.2.2.2 x = _
      rw [coRun_f h1, coPay_r]
    unfold yrLost
    rw [e]
    exact h.1 x h1 h2
  · have e : (coYear C tr Y q).2.2.1 = (coPay tr Y (coTc C)).2.2.1 := by
      show (coRun C (coFl C tr Y q) (coPay tr Y (coTc C)) (coN C)).1.2.2.1 = _
      rw [coRun_b]
    rw [e, coPay_b hi (by show C.2.2.2.2.2.2.1 ≤ 16; omega)]
    exact h.2 i hi
theorem invY_run {C : CoV} {tr : Nat → TrV} {Y : YrV} (h : InvY C Y) (htc : C.2.2.2.2.2.2.1 ≤ 6) : ∀ {k : Nat}, InvY C (runM C tr Y k)
  | 0 => h
  | k + 1 => invY_year (invY_run h htc (k := k)) htc
theorem lostB_8 {C : CoV} {Y : YrV} (h : InvY C Y) : ∀ {k : Nat}, C.1 ≤ k → k ≤ 8 → yrLostB Y k = yrLostB Y C.1
  | 0, h1, _ => by rw [show C.1 = 0 by omega]
  | k + 1, h1, h2 => by
    by_cases e : C.1 = k + 1
    · rw [e]
    · rw [yrLostB, if_neg (by rw [h.1 k (by omega) (by omega)]; exact Bool.false_ne_true)]
      exact lostB_8 h (by omega) (by omega)
theorem lostN_f {Y : YrV} : ∀ {n : Nat}, lostN Y n = false → yrLostB Y n = 0
  | 0, _ => rfl
  | n + 1, h => by
    rw [lostN, Bool.or_eq_false_iff] at h
    rw [yrLostB, if_neg (by rw [h.2]; exact Bool.false_ne_true)]
    exact lostN_f h.1
theorem lostN_t {Y : YrV} : ∀ {n : Nat}, lostN Y n = true → ∃ x, x < n ∧ yrLost Y x = true
  | 0, h => absurd h Bool.false_ne_true
  | n + 1, h => by
    rw [lostN, Bool.or_eq_true] at h
    rcases h with h | h
    · obtain ⟨x, hx, hl⟩ := lostN_t h
      exact ⟨x, by omega, hl⟩
    · exact ⟨n, by omega, h⟩
theorem lost_iff {C : CoV} {Y : YrV} (hn : C.1 ≤ 8) (h : InvY C Y) : yrLostB Y 8 ≠ 0 ↔ lostN Y C.1 = true := by
  rw [lostB_8 h hn (Nat.le_refl 8)]
  constructor
  · intro q
    cases e : lostN Y C.1 with
    | true => rfl
    | false => exact absurd (lostN_f e) q
  · intro q e
    obtain ⟨x, hx, hl⟩ := lostN_t q
    have := hasB_lost (Y := Y) (x := x) (by omega) (n := C.1) hn
    rw [e, hasB_0, decide_eq_true hx, hl] at this
    exact absurd this (by decide)
theorem flP_eq {C : CoV} {tr : Nat → TrV} {Y : YrV} {k : Nat} (hn : C.1 ≤ 8) (h : InvY C Y) (htc : C.2.2.2.2.2.2.1 ≤ 6) : flP C tr Y k = lostN (runM C tr Y (k + 1)) C.1 := by
  unfold flP
  rw [Bool.eq_iff_iff, decide_eq_true_eq]
  exact lost_iff hn (invY_run h htc)
def fG (C : CoV) (tr : Nat → TrV) (Y : YrV) (i : Nat) (a : Int32) : Prop := (a = -1 ∧ ∀ j, j < i → flP C tr Y j = false) ∨ (∃ j, i = j + 1 ∧ j < 30 ∧ a = Y.1 + nI j ∧ flP C tr Y j = true ∧ ∀ k, k < j → flP C tr Y k = false)
theorem fG_no {C : CoV} {tr : Nat → TrV} {Y : YrV} {i y : Nat} {a : Int32} (hy : Y.1 = nI y) (hyb : y + 30 < 1000000) (g : fG C tr Y i a) (ha : a = -1) : ∀ j, j < i → flP C tr Y j = false := by
  rcases g with ⟨-, g⟩ | ⟨j, -, hj, e, -⟩
  · exact g
  · rw [hy, nI_add] at e
    exact absurd (e.symm.trans ha) (nI_m1 (by omega))
theorem fG_y {C : CoV} {tr : Nat → TrV} {Y : YrV} {i : Nat} (g : ∀ j, j < i → flP C tr Y j = false) (hi : i < 30) (h : flP C tr Y i = true) : fG C tr Y (i + 1) (Y.1 + nI i) := Or.inr ⟨i, rfl, hi, rfl, h, g⟩
theorem fG_n {C : CoV} {tr : Nat → TrV} {Y : YrV} {i : Nat} (g : ∀ j, j < i → flP C tr Y j = false) (h : flP C tr Y i = false) : fG C tr Y (i + 1) (-1) := Or.inl ⟨rfl, fun j hj => by
  by_cases e : j = i
  · subst e; exact h
  · exact g j (by omega)⟩
theorem fl_now {C : CoV} {tr : Nat → TrV} {Y : YrV} (hn : C.1 ≤ 8) (hv : InvY C Y) (h : lostN Y C.1 = true) : Y.1 = flR C tr Y := by
  unfold flR
  rw [if_pos ((lost_iff hn hv).mpr h)]
theorem fl_end {C : CoV} {tr : Nat → TrV} {Y : YrV} {i y : Nat} {a : Int32} (hn : C.1 ≤ 8) (hv : InvY C Y) (hy : Y.1 = nI y) (hyb : y + 30 < 1000000) (h : lostN Y C.1 = false) (g : fG C tr Y i a) (hi : i ≤ 30) (he : i = 30 ∨ ¬ a = -1) : a = flR C tr Y := by
  unfold flR
  rw [if_neg (fun q => by rw [(lost_iff hn hv).mp q] at h; exact absurd h (by decide))]
  rcases g with ⟨e, g⟩ | ⟨j, hj, hj2, e, h2, h3⟩
  · have : i = 30 := by
      rcases he with he | he
      · exact he
      · exact absurd e he
    subst this
    rw [firstN_eq g (Or.inr rfl), if_neg (Nat.lt_irrefl 30), e]
  · rw [firstN_eq h3 (Or.inl ⟨hj2, h2⟩), if_pos hj2, runM_y hy, e, hy, nI_add]
/-- the breached treaties as the reference puts them together -/
def brB (Y : YrV) : Nat → Int32
  | 0 => 0
  | t + 1 => brB Y t ||| (bI (yrBr Y t) <<< nI t)
theorem bI_sh {b : Bool} {t : Nat} : bI b <<< nI t = if b = true then bit t else 0 := by
  cases b with
  | true => rfl
  | false =>
    show (0 : Int32) <<< nI t = 0
    exact Int32.zero_shiftLeft
theorem brB_b {Y : YrV} {i : Nat} : ∀ {n : Nat}, n ≤ 6 → (brB Y n).toBitVec.getLsbD i = (decide (i < n) && Y.2.2.1.toBitVec.getLsbD i)
  | 0, _ => by
    rw [show brB Y 0 = 0 from rfl, show (0 : Int32).toBitVec = 0#32 from rfl]
    simp
  | n + 1, h => by
    have ih := brB_b (Y := Y) (i := i) (n := n) (by omega)
    rw [brB, Int32.toBitVec_or, BitVec.getLsbD_or, ih, bI_sh, show yrBr Y n = Y.2.2.1.toBitVec.getLsbD n from hasB_bv (by omega)]
    by_cases e : i = n
    · subst e
      cases hb : Y.2.2.1.toBitVec.getLsbD i with
      | true =>
        rw [if_pos rfl, bit_bv (by omega), BitVec.getLsbD_twoPow]
        have : i < 32 := by omega
        simp [this]
      | false =>
        rw [if_neg Bool.false_ne_true, show (0 : Int32).toBitVec = 0#32 from rfl]
        simp
    · have h1 : (i < n + 1) = (i < n) := by apply propext; omega
      have h2 : ¬ n = i := fun q => e q.symm
      simp only [h1]
      split
      · rw [bit_bv (by omega), BitVec.getLsbD_twoPow]
        simp [h2]
      · rw [show (0 : Int32).toBitVec = 0#32 from rfl]
        simp
theorem brB_all {C : CoV} {Y : YrV} (h : InvY C Y) (htc : C.2.2.2.2.2.2.1 ≤ 6) : brB Y C.2.2.2.2.2.2.1 = Y.2.2.1 := by
  apply Int32.toBitVec_inj.mp
  apply BitVec.eq_of_getLsbD_eq
  intro i hi
  rw [brB_b htc]
  by_cases e : i < C.2.2.2.2.2.2.1
  · rw [decide_eq_true e, Bool.true_and]
  · rw [decide_eq_false e, Bool.false_and, h.2 i (by omega)]
theorem coWorth_congr {C : CoV} {p q : Int32} : ∀ {n : Nat}, (∀ x, x < n → hasB p x = hasB q x) → coWorth C p n = coWorth C q n
  | 0, _ => rfl
  | n + 1, h => by rw [coWorth, coWorth, coWorth_congr (fun x hx => h x (by omega)), h n (by omega)]
theorem worth_255 {C : CoV} {Y : YrV} (hn : C.1 ≤ 8) : stWorth C Y 255 = coWorth C (yrLostB Y 8 ^^^ -1) (coN C) := by
  unfold stWorth
  refine coWorth_congr fun x hx => ?_
  have hx2 : x < C.1 := hx
  have e : hasB 255 x = true := by
    have : ∀ k, k < 8 → hasB 255 k = true := by decide +kernel
    exact this x (by omega)
  rw [hasB_and (by omega), e, Bool.true_and]
theorem lost_s {Y : YrV} {x : Nat} {a : Int32} (ha : a = yrLostB Y x) (h : yrLost Y x = true) : a ||| bit x = yrLostB Y (x + 1) := by rw [yrLostB, if_pos h, ← ha]
theorem lost_n {Y : YrV} {x : Nat} {a : Int32} (ha : a = yrLostB Y x) (h : yrLost Y x = false) : a ||| 0 = yrLostB Y (x + 1) := by rw [yrLostB, if_neg (by rw [h]; exact Bool.false_ne_true), ← ha, or_zero]
theorem th_bad {m w : Int32} (h : wi m 0 30 = false ∨ wi w 0 4 = false) : thOk m w = false := by
  unfold thOk
  rcases h with h | h
  · rw [h]; rfl
  · rw [h, Bool.and_false]
theorem th_b {C : CoV} {tr : Nat → TrV} {Y : YrV} {m w : Int32} (h : thOk m w = false) : (-2 : Int32) = thR C tr Y m w := by unfold thR; rw [h]; rfl
theorem th_ok {C : CoV} {tr : Nat → TrV} {Y : YrV} {j : Nat} {w : Int32} (hj : j < 2 ^ 31) (h1 : wi (nI j) 0 30 = true) (h2 : wi w 0 4 = true) : outV C (runM C tr Y j) (runF C tr Y j) w = thR C tr Y (nI j) w := by
  unfold thR thOk
  rw [h1, h2, nI_clamp hj]
  rfl
theorem mo_f {M : MoV} {f : Nat → Int32} {ok : Bool} (h : ok = false) : moRef M f 0 = moV M f ok := by unfold moV; rw [h]; rfl
theorem mo_t {M : MoV} {f : Nat → Int32} {ok : Bool} (h : ok = true) : f = moV M f ok := by unfold moV; rw [h]; rfl
theorem dw_1 {m q w : Int32} (h : wi m 0 30 = false) : dwOk m q w = false := by unfold dwOk; rw [h]; rfl
theorem dw_2 {m q w : Int32} (h : wi q 0 999999 = false) : dwOk m q w = false := by unfold dwOk; rw [h, Bool.and_false]; rfl
theorem dw_3 {m q w : Int32} (h : wi w 0 4 = false) : dwOk m q w = false := by unfold dwOk; rw [h, Bool.and_false]
theorem dw_4 {m q w : Int32} (h : wi m 0 30 = true) (h2 : wi q 0 999999 = true) (h3 : wi w 0 4 = true) : dwOk m q w = true := by unfold dwOk; rw [h, h2, h3]; rfl
theorem dw_b {C : CoV} {tr : Nat → TrV} {Y : YrV} {m q w : Int32} (h : dwOk m q w = false) : (-2 : Int32) = dwR C tr Y m q w := by unfold dwR; rw [h]; rfl
theorem dw_ok {C : CoV} {tr : Nat → TrV} {Y : YrV} {j : Nat} {q w : Int32} (hj : j < 2 ^ 31) (h : dwOk (nI j) q w = true) : outV C (drM C tr Y q.toInt64 j) (drF C tr Y q.toInt64 j) w = dwR C tr Y (nI j) q w := by
  unfold dwR
  rw [h, nI_clamp hj]
  rfl
theorem drM_y {C : CoV} {tr : Nat → TrV} {Y : YrV} {y : Nat} {x : Int64} (h : Y.1 = nI y) : ∀ {k : Nat}, (drM C tr Y x k).1 = nI (y + k)
  | 0 => h
  | k + 1 => by
    rw [drM, coYear_y, drM_y h (k := k)]
    exact nI_s _
theorem inv_dr {C : CoV} {tr : Nat → TrV} {Y : YrV} {y k : Nat} {x : Int64} (hI : Inv C tr Y) (h : Y.1 = nI y) (hk : y + k < 1000000) : Inv C tr (drM C tr Y x k) :=
  ⟨hI.1, hI.2.1, hI.2.2.1, hI.2.2.2.1, hI.2.2.2.2.1, hI.2.2.2.2.2.1, hI.2.2.2.2.2.2.1, ⟨y + k, drM_y h, hk⟩⟩
theorem invY_dr {C : CoV} {tr : Nat → TrV} {Y : YrV} {x : Int64} (h : InvY C Y) (htc : C.2.2.2.2.2.2.1 ≤ 6) : ∀ {k : Nat}, InvY C (drM C tr Y x k)
  | 0 => h
  | k + 1 => invY_year (invY_dr h htc (k := k)) htc
theorem vt_s {v1 : Nat → Int32} {g : Nat → Int32} {x : Nat} {v : Int32} (h : ∀ k, k < x → v1 k = g k) (e : v = g x) : ∀ k, k < x + 1 → upd v1 x v k = g k := fun k hk => by
  by_cases q : k = x
  · subst q; rw [pk_us]; exact e
  · rw [pk_un q]; exact h k (by omega)
theorem vm_s {C : CoV} {Y Z : YrV} {n f g v : Int32} {x : Nat} (h : (f, g) = voS C Y Z n x) (hv : v = if yrLost Y x = true then 0 else C.2.2.2.1 x / 10) (c : Z.2.2.2.2 x - Y.2.2.2.2 x ≤ n) : (f + 0, g + v) = voS C Y Z n (x + 1) := by
  cases e : yrLost Y x with
  | true => rw [hv, if_pos e, add_zero', add_zero']; exact vo_l h e
  | false => rw [hv, if_neg (by rw [e]; exact Bool.false_ne_true), add_zero']; exact vo_s h e c
theorem vm_g {C : CoV} {Y Z : YrV} {n f g v : Int32} {x : Nat} (h : (f, g) = voS C Y Z n x) (hv : v = if yrLost Y x = true then 0 else C.2.2.2.1 x / 10) (c : ¬ Z.2.2.2.2 x - Y.2.2.2.2 x ≤ n) : (f + v, g + 0) = voS C Y Z n (x + 1) := by
  cases e : yrLost Y x with
  | true => rw [hv, if_pos e, add_zero', add_zero']; exact vo_l h e
  | false => rw [hv, if_neg (by rw [e]; exact Bool.false_ne_true), add_zero']; exact vo_g h e c
theorem vo_1 {m n w : Int32} (h : wi m 1 12 = false) : voOk m n w = false := by unfold voOk; rw [h]; rfl
theorem vo_2 {m n w : Int32} (h : wi n 0 12 = false) : voOk m n w = false := by unfold voOk; rw [h, Bool.and_false]; rfl
theorem vo_3 {m n w : Int32} (h : wi w 0 1 = false) : voOk m n w = false := by unfold voOk; rw [h, Bool.and_false]
theorem vo_4 {m n w : Int32} (h : wi m 1 12 = true) (h2 : wi n 0 12 = true) (h3 : wi w 0 1 = true) : voOk m n w = true := by unfold voOk; rw [h, h2, h3]; rfl
theorem vo_b {C : CoV} {tr : Nat → TrV} {Y : YrV} {m n w : Int32} (h : voOk m n w = false) : (-2 : Int32) = voR C tr Y m n w := by unfold voR; rw [h]; rfl
