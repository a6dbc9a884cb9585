theorem or_and {a b q : Int32} : (a ||| b) &&& q = (a &&& q) ||| (b &&& q) := by
  apply Int32.toBitVec_inj.mp
  rw [Int32.toBitVec_and, Int32.toBitVec_or, Int32.toBitVec_or, Int32.toBitVec_and, Int32.toBitVec_and]
  apply BitVec.eq_of_getLsbD_eq
  intro i hi
  rw [BitVec.getLsbD_and, BitVec.getLsbD_or, BitVec.getLsbD_or, BitVec.getLsbD_and, BitVec.getLsbD_and]
  cases a.toBitVec.getLsbD i <;> cases b.toBitVec.getLsbD i <;> cases q.toBitVec.getLsbD i <;> rfl
theorem or_0 {a b : Int32} : a ||| b = 0 ↔ a = 0 ∧ b = 0 := by
  constructor
  · intro h
    have key : ∀ i, (a.toBitVec.getLsbD i || b.toBitVec.getLsbD i) = false := fun i => by
      have := congrArg (fun x : Int32 => x.toBitVec.getLsbD i) h
      simp only [Int32.toBitVec_or, BitVec.getLsbD_or] at this
      rw [this, show (0 : Int32).toBitVec = 0#32 from rfl]
      simp
    refine ⟨Int32.toBitVec_inj.mp (BitVec.eq_of_getLsbD_eq fun i hi => ?_), Int32.toBitVec_inj.mp (BitVec.eq_of_getLsbD_eq fun i hi => ?_)⟩
    · have := key i
      rw [Bool.or_eq_false_iff] at this
      rw [this.1, show (0 : Int32).toBitVec = 0#32 from rfl]; simp
    · have := key i
      rw [Bool.or_eq_false_iff] at this
      rw [this.2, show (0 : Int32).toBitVec = 0#32 from rfl]; simp
  · intro ⟨h1, h2⟩
    rw [h1, h2]; rfl
def orF (C : CoV) (tr : Nat → TrV) (Y : YrV) : Nat → Int32
  | 0 => 0
  | k + 1 => orF C tr Y k ||| coNextF C tr (runM C tr Y k)
theorem orF_dr {C : CoV} {tr : Nat → TrV} {Y : YrV} {q : Int32} : ∀ {m : Nat}, allN (drP C tr Y q) m = decide (orF C tr Y m &&& q = 0)
  | 0 => by
    rw [show orF C tr Y 0 = 0 from rfl, show (0 : Int32) &&& q = 0 from Int32.zero_and]; rfl
  | m + 1 => by
    rw [allN, orF_dr, orF, or_and, decide_eq_decide.mpr or_0, Bool.decide_and]; rfl
section CH
variable {C : CoV} {tr : Nat → TrV} {Y Z : YrV} {q a : Int32} {m x f : Nat}
theorem sd_1 (h : 9 < Y.2.2.2.1 x + nI f) : sdP C tr Y q m x (nI f) = false := by
  unfold sdP; rw [decide_eq_false (Int32.not_le.mpr h)]; rfl
theorem sd_2 (hZ : Z = dkUp Y x (nI f)) (ha : a = orF C tr Z m) (h : ¬ a &&& q = 0) : sdP C tr Y q m x (nI f) = false := by
  unfold sdP; rw [← hZ, orF_dr, ← ha, decide_eq_false h, Bool.and_false]
theorem sd_3 (hZ : Z = dkUp Y x (nI f)) (ha : a = orF C tr Z m) (h9 : ¬ 9 < Y.2.2.2.1 x + nI f) (h : a &&& q = 0) : sdP C tr Y q m x (nI f) = true := by
  unfold sdP; rw [← hZ, orF_dr, ← ha, decide_eq_true h, decide_eq_true (Int32.not_lt.mp h9)]; rfl
theorem chk_1 {w : Int32} {m : Int32} (h : wi q 0 (bit C.1 - 1) = false) : chOk C q m w = false := by unfold chOk; rw [show wi q 0 (bit (coN C) - 1) = false from h]; rfl
theorem chk_2 {w : Int32} {m : Int32} (h : wi m 1 12 = false) : chOk C q m w = false := by unfold chOk; rw [h, Bool.and_false]; rfl
theorem chk_3 {w : Int32} {m : Int32} (h : wi w 0 1 = false) : chOk C q m w = false := by unfold chOk; rw [h, Bool.and_false]
theorem chk_4 {w : Int32} {m : Int32} (h : wi q 0 (bit C.1 - 1) = true) (h2 : wi m 1 12 = true) (h3 : wi w 0 1 = true) : chOk C q m w = true := by unfold chOk; rw [show wi q 0 (bit (coN C) - 1) = true from h, h2, h3]; rfl
theorem ch_b {w : Int32} {m : Int32} (h : chOk C q m w = false) : (-10 : Int32) = chR C tr Y q m w := by unfold chR; rw [h]; rfl
end CH
/-- bells, worths, prices as they are told -/
def InvN (C : CoV) (tr : Nat → TrV) (Y : YrV) : Prop := (∃ e : Nat, Y.2.1 = nI e ∧ e ≤ 999) ∧ (∀ x, x < 8 → ∃ w : Nat, C.2.2.2.1 x = nI w ∧ w ≤ 99) ∧ ∀ i, i < C.2.2.2.2.2.2.1 → ∃ p : Nat, tPrice (tr i) = nI p ∧ p ≤ 20
theorem cost_nat {k p : Nat} (hp : p ≤ 20) : ∃ c : Nat, kCosts k (nI p) = nI c ∧ c ≤ 40 := by
  unfold kCosts
  split
  · exact ⟨p, rfl, by omega⟩
  · exact ⟨p, rfl, by omega⟩
  · exact ⟨p, rfl, by omega⟩
  · exact ⟨p + 1, nI_s p, by omega⟩
  · exact ⟨2 * p, pk_mul 2 p, by omega⟩
  · refine ⟨(p + 1 + 1) / 2, ?_, by omega⟩
    rw [nI_s, nI_s]
    exact pk_div (d := 2) (by omega) (by decide) (by decide)
theorem due_nat {k c : Nat} {y : Int32} (hc : c ≤ 40) : ∃ d : Nat, kDue k (nI c) y = nI d ∧ d ≤ 80 := by
  have hA : ∃ d : Nat, kDueA (nI c) y = nI d ∧ d ≤ 80 := by
    unfold kDueA
    split
    · exact ⟨2 * c, pk_mul 2 c, by omega⟩
    · exact ⟨0, rfl, by omega⟩
  unfold kDue
  split
  · exact ⟨c, rfl, by omega⟩
  · exact ⟨c, rfl, by omega⟩
  · exact ⟨c, rfl, by omega⟩
  · exact hA
  · exact ⟨c, rfl, by omega⟩
  · exact hA
theorem coPay_be {tr : Nat → TrV} {Y : YrV} (h0 : ∃ e : Nat, Y.2.1 = nI e ∧ e ≤ 999) : ∀ {n : Nat}, (∀ i, i < n → ∃ c : Nat, tCosts (tr i) = nI c ∧ c ≤ 40) → ∃ e : Nat, (coPay tr Y n).2.1 = nI e ∧ e ≤ 999
  | 0, _ => h0
  | n + 1, h => by
    obtain ⟨e, he, hb⟩ := coPay_be h0 (n := n) (fun i hi => h i (by omega))
    obtain ⟨c, hc, hc2⟩ := h n (by omega)
    obtain ⟨d, hd, hd2⟩ := due_nat (k := (tr n).1) (y := (coPay tr Y n).1) hc2
    rw [coPay]
    split
    · split
      · rename_i hle
        rw [hc, hd, he, nI_leI (by omega) (by omega)] at hle
        refine ⟨e - d, ?_, by omega⟩
        show (coPay tr Y n).2.1 - kDue (tr n).1 (tCosts (tr n)) (coPay tr Y n).1 = _
        rw [hc, hd, he, pk_sub hle]
      · exact ⟨e, he, hb⟩
    · exact ⟨e, he, hb⟩
theorem coRun_be {C : CoV} {fl : Int32} {Y : YrV} : ∀ {x : Nat}, (coRun C fl Y x).1.2.1 = Y.2.1
  | 0 => rfl
  | x + 1 => by
    have ih := coRun_be (C := C) (fl := fl) (Y := Y) (x := x)
    rw [coRun]
    repeat' split
    all_goals exact ih
theorem coRun_ea {C : CoV} {fl : Int32} {Y : YrV} (hw : ∀ x, x < 8 → ∃ w : Nat, C.2.2.2.1 x = nI w ∧ w ≤ 99) : ∀ {x : Nat}, x ≤ 8 → ∃ s : Nat, (coRun C fl Y x).2 = nI s ∧ s ≤ 9 * x
  | 0, _ => ⟨0, rfl, Nat.le_refl 0⟩
  | x + 1, h => by
    obtain ⟨s, hs, hb⟩ := coRun_ea hw (x := x) (fl := fl) (Y := Y) (by omega)
    rw [coRun]
    split
    · exact ⟨s, hs, by omega⟩
    · split
      · obtain ⟨w, e, hw2⟩ := hw x (by omega)
        refine ⟨s + w / 10, ?_, by omega⟩
        show (coRun C fl Y x).2 + coWo C x / 10 = _
        rw [hs, show coWo C x = nI w from e, show nI w / 10 = nI (w / 10) from pk_div (d := 10) (by omega) (by decide) (by decide), nI_add]
      · exact ⟨s, hs, by omega⟩
theorem imin_nat {k : Nat} (h : k < 2 ^ 31) : ∃ e : Nat, imin 999 (nI k) = nI e ∧ e ≤ 999 := by
  unfold imin
  split
  · rename_i q
    have : nI k < nI 999 := q
    rw [nI_ltI h (by decide)] at this
    exact ⟨k, rfl, by omega⟩
  · exact ⟨999, rfl, Nat.le_refl _⟩
theorem cost_all {C : CoV} {tr : Nat → TrV} {Y : YrV} (hI : Inv C tr Y) (h : InvN C tr Y) : ∀ i, i < C.2.2.2.2.2.2.1 → ∃ c : Nat, tCosts (tr i) = nI c ∧ c ≤ 40 := fun i hi => by
  have htc := inv_tc hI
  obtain ⟨p, hp, hp2⟩ := h.2.2 i hi
  rw [(hI.2.2.2.2.1 i (by omega)).2.2, hp]
  exact cost_nat hp2
theorem invN_year {C : CoV} {tr : Nat → TrV} {Y : YrV} {q : Int32} (hI : Inv C tr Y) (h : InvN C tr Y) : InvN C tr (coYear C tr Y q) := by
  refine ⟨?_, h.2.1, h.2.2⟩
  have hn := inv_n hI
  obtain ⟨e, he, hb⟩ := coPay_be h.1 (cost_all hI h)
  obtain ⟨s, hs, hb2⟩ := coRun_ea (fl := coFl C tr Y q) (Y := coPay tr Y (coTc C)) h.2.1 (x := C.1) hn
  show ∃ e : Nat, imin 999 ((coRun C (coFl C tr Y q) (coPay tr Y (coTc C)) (coN C)).1.2.1 + (coRun C (coFl C tr Y q) (coPay tr Y (coTc C)) (coN C)).2) = nI e ∧ e ≤ 999
  rw [coRun_be, show (coRun C (coFl C tr Y q) (coPay tr Y (coTc C)) (coN C)).2 = nI s from hs, show (coPay tr Y (coTc C)).2.1 = nI e from he, nI_add]
  exact imin_nat (by omega)
theorem invN_run {C : CoV} {tr : Nat → TrV} {Y : YrV} {y : Nat} (hI : Inv C tr Y) (hy : Y.1 = nI y) (h : InvN C tr Y) : ∀ {k : Nat}, y + k < 1000000 → InvN C tr (runM C tr Y k)
  | 0, _ => h
  | k + 1, hk => invN_year (inv_run hI hy (by omega)) (invN_run hI hy h (k := k) (by omega))
theorem firstN_le (p : Nat → Bool) : ∀ n, firstN p n ≤ n
  | 0 => Nat.le_refl 0
  | n + 1 => by
    have := firstN_le p n
    rw [firstN]
    repeat' split
    all_goals omega
theorem pre_pop : ∀ k, k < 9 → popc (preB k) = bitsN (preB k) 8 := by decide +kernel
theorem flB_pop {C : CoV} {tr : Nat → TrV} {Y : YrV} (hn : C.1 ≤ 8) : ∀ {m : Nat}, flB C tr Y m = popSum C tr Y m
  | 0 => rfl
  | m + 1 => by
    rw [flB, popSum, flB_pop hn]
    unfold coNextF coFl coWater
    rw [pre_pop]
    exact Nat.lt_succ_of_le (Nat.le_trans (firstN_le _ _) hn)
theorem coPay_kb {tr : Nat → TrV} {Y : YrV} {i : Nat} (h : Y.2.2.1.toBitVec.getLsbD i = true) : ∀ {t : Nat}, (coPay tr Y t).2.2.1.toBitVec.getLsbD i = true
  | 0 => h
  | t + 1 => by
    have ih := coPay_kb (tr := tr) h (t := t)
    rw [coPay]
    split
    · split
      · exact ih
      · show ((coPay tr Y t).2.2.1 ||| bit t).toBitVec.getLsbD i = true
        rw [Int32.toBitVec_or, BitVec.getLsbD_or, ih]; rfl
    · exact ih
theorem coYear_br {C : CoV} {tr : Nat → TrV} {Y : YrV} {q : Int32} : (coYear C tr Y q).2.2.1 = (coPay tr Y (coTc C)).2.2.1 := by
  show (coRun C (coFl C tr Y q) (coPay tr Y (coTc C)) (coN C)).1.2.2.1 = _
  rw [coRun_b]
theorem br_keep {C : CoV} {tr : Nat → TrV} {Y : YrV} {q : Int32} {n : Nat} (hn : n < 16) (h : yrBr Y n = true) : yrBr (coYear C tr Y q) n = true := by
  unfold yrBr at h ⊢
  rw [hasB_bv hn] at h ⊢
  rw [coYear_br]
  exact coPay_kb h
theorem kept_all {E : CoV} {T : Nat → TrV} {Y : YrV} {n : Nat} (hn : n < 16) (h0 : yrBr Y n = false) : ∀ {m : Nat}, allN (keptP E T Y n) m = !yrBr (runM E T Y m) n
  | 0 => by rw [show runM E T Y 0 = Y from rfl, h0]; rfl
  | m + 1 => by
    rw [allN, kept_all hn h0 (m := m)]
    unfold keptP
    cases e : yrBr (runM E T Y m) n with
    | true => rw [show yrBr (runM E T Y (m + 1)) n = true from br_keep hn e]; rfl
    | false => rw [Bool.not_false, Bool.true_and]
abbrev offE (C : CoV) : CoV := coSetTc C (C.2.2.2.2.2.2.1 + 1)
abbrev offU (C : CoV) (tr : Nat → TrV) (Y : YrV) (a c : Int32) (m q : Nat) : Nat → TrV := offT tr C.2.2.2.2.2.2.1 a c Y.1 (Y.1 + nI m) (nI q)
section OF
variable {C : CoV} {tr : Nat → TrV} {Y : YrV} {a c : Int32} {m q y ja jc : Nat}
theorem offU_s : offU C tr Y a c m q C.2.2.2.2.2.2.1 = (0, nI 0, a, c, Y.1, Y.1 + nI m, nI q, kCosts 0 (nI q)) := va_up_self _ _ _
theorem offU_n {i : Nat} (h : i ≠ C.2.2.2.2.2.2.1) : offU C tr Y a c m q i = tr i := va_up_ne _ _ h
theorem off_inv (hI : Inv C tr Y) (h6 : C.2.2.2.2.2.2.1 < 6) (hy : Y.1 = nI y) (hyb : y + 30 < 1000000) (hm : m ≤ 12) (ha : a = nI ja) (hc : c = nI jc) (h1 : ja ≤ jc) (h2 : jc < C.1) : Inv (offE C) (offU C tr Y a c m q) Y := by
  refine ⟨hI.1, hI.2.1, h6, hI.2.2.2.1, fun i hi => ?_, hI.2.2.2.2.2.1, fun i hi => ?_, hI.2.2.2.2.2.2.2⟩
  · by_cases e : i = C.2.2.2.2.2.2.1
    · subst e; rw [offU_s]; exact ⟨show 0 < 6 by decide, rfl, rfl⟩
    · rw [offU_n e]; exact hI.2.2.2.2.1 i hi
  · by_cases e : i = C.2.2.2.2.2.2.1
    · subst e; rw [offU_s]
      exact ⟨ja, jc, y, y + m, ha, hc, h1, h2, hy, by show Y.1 + nI m = _; rw [hy, nI_add], by omega, by omega⟩
    · rw [offU_n e]
      have hi2 : i < C.2.2.2.2.2.2.1 + 1 := hi
      exact hI.2.2.2.2.2.2.1 i (by omega)
theorem off_invN (hN : InvN C tr Y) (hq : q ≤ 20) : InvN (offE C) (offU C tr Y a c m q) Y := by
  refine ⟨hN.1, hN.2.1, fun i hi => ?_⟩
  by_cases e : i = C.2.2.2.2.2.2.1
  · subst e; rw [offU_s]; exact ⟨q, rfl, hq⟩
  · rw [offU_n e]
    have hi2 : i < C.2.2.2.2.2.2.1 + 1 := hi
    exact hN.2.2 i (by omega)
theorem off_br (hV : InvY C Y) (h6 : C.2.2.2.2.2.2.1 < 6) : yrBr Y C.2.2.2.2.2.2.1 = false := by
  unfold yrBr
  rw [hasB_bv (by omega)]
  exact hV.2 _ (Nat.le_refl _)
theorem offK_end (hV : InvY C Y) (h6 : C.2.2.2.2.2.2.1 < 6) : offK C tr Y a c m q = !yrBr (runM (offE C) (offU C tr Y a c m q) Y m) C.2.2.2.2.2.2.1 :=
  kept_all (by show C.2.2.2.2.2.2.1 < 16; omega) (off_br hV h6)
theorem off_free {E : CoV} {T : Nat → TrV} {Z : YrV} {n : Nat} {st : Int32} (hn : n < 16) (hE : E.2.2.2.2.2.2.1 = n + 1) (hT : (T n).1 = 0 ∧ tCosts (T n) = nI 0) (hb : ∃ e : Nat, (coPay T Z n).2.1 = nI e ∧ e ≤ 999) (h : yrBr Z n = false) : yrBr (coYear E T Z st) n = false := by
  unfold yrBr at h ⊢
  rw [hasB_bv hn] at h ⊢
  rw [coYear_br, show coTc E = n + 1 from hE]
  have hk := coPay_b (tr := T) (Y := Z) (i := n) (t := n) (Nat.le_refl n) (by omega)
  obtain ⟨e, he, hb⟩ := hb
  rw [coPay]
  split
  · split
    · exact hk.trans h
    · rename_i q
      exfalso
      apply q
      rw [hT.1, hT.2, he]
      exact nI_le (Nat.zero_le e) (by omega)
  · exact hk.trans h
theorem offK_0 (hI : Inv C tr Y) (hN : InvN C tr Y) (hV : InvY C Y) (h6 : C.2.2.2.2.2.2.1 < 6) (hy : Y.1 = nI y) (hyb : y + 30 < 1000000) (hm : m ≤ 12) (ha : a = nI ja) (hc : c = nI jc) (h1 : ja ≤ jc) (h2 : jc < C.1) : offK C tr Y a c m 0 = true := by
  have hI2 := off_inv (q := 0) hI h6 hy hyb hm ha hc h1 h2
  have hN2 : InvN (offE C) (offU C tr Y a c m 0) Y := off_invN hN (by decide)
  rw [offK_end hV h6]
  have key : ∀ k, k ≤ m → yrBr (runM (offE C) (offU C tr Y a c m 0) Y k) C.2.2.2.2.2.2.1 = false := by
    intro k
    induction k with
    | zero => intro _; exact off_br hV h6
    | succ k ih =>
      intro hk
      have hI3 : Inv (offE C) (offU C tr Y a c m 0) (runM (offE C) (offU C tr Y a c m 0) Y k) := inv_run hI2 hy (by omega)
      have hN3 : InvN (offE C) (offU C tr Y a c m 0) (runM (offE C) (offU C tr Y a c m 0) Y k) := invN_run hI2 hy hN2 (by omega)
      refine off_free (n := C.2.2.2.2.2.2.1) (by omega) rfl ?_ (coPay_be hN3.1 (fun i hi => cost_all hI3 hN3 i ?_)) (ih (by omega))
      · rw [offU_s]; exact ⟨rfl, rfl⟩
      · show i < C.2.2.2.2.2.2.1 + 1; omega
  rw [key m (Nat.le_refl m)]; rfl
theorem off_rel {b : Nat → Int32} {pc : Nat} {P : Nat → YrV} (hr : Rel b C tr Y pc P) (htc : C.2.2.2.2.2.2.1 ≤ 6) (hdc : C.2.2.2.2.2.2.2.1 ≤ 6) (hV : InvY C Y) (h6 : C.2.2.2.2.2.2.1 < 6) : Rel0 (addB b C.2.2.2.2.2.2.1 0 a c Y.1 (Y.1 + nI m) (nI q)) (offE C) (offU C tr Y a c m q) Y pc P := by
  have h := Rel_add (kd := 0) (a := a) (c := c) (f := Y.1) (u := Y.1 + nI m) (p := nI q) hr hdc h6 (off_br hV h6)
  have e : coAdd C tr 0 a c Y.1 (Y.1 + nI m) (nI q) = (offE C, offU C tr Y a c m q) := if_pos h6
  rw [e] at h
  exact ⟨_, h, ⟨h6, hdc⟩, fun k hk h6 => (pk_un h6).symm⟩
def offG (C : CoV) (tr : Nat → TrV) (Y : YrV) (a c : Int32) (m : Nat) (pl : Int32) (q : Nat) (bb : Bool) (fw : Int32) : Prop := (∀ i, (if bb = true then q else q + 1) ≤ i → i ≤ 20 → offK C tr Y a c m i = false) ∧ (bb = false → q ≤ 20 ∧ offK C tr Y a c m q = true ∧ fw = pl - flB (offE C) (offU C tr Y a c m q) Y m)
theorem offG_pos {pl fw : Int32} {bb : Bool} (g : offG C tr Y a c m pl q bb fw) (hb : bb = true) (h0 : offK C tr Y a c m 0 = true) : 1 ≤ q := by
  have := g.1 0
  rw [if_pos hb] at this
  apply Classical.byContradiction
  intro hq
  rw [this (by omega) (by omega)] at h0
  exact absurd h0 (by decide)
theorem offG_t {pl fw fw2 : Int32} {bb : Bool} (g : offG C tr Y a c m pl q bb fw) (hb : bb = true) (hq : 1 ≤ q) (hV : InvY C Y) (h6 : C.2.2.2.2.2.2.1 < 6) (h : yrBr (runM (offE C) (offU C tr Y a c m (q - 1)) Y m) C.2.2.2.2.2.2.1 = true) : offG C tr Y a c m pl (q - 1) true fw2 := by
  refine ⟨fun i h1 h2 => ?_, fun h => absurd h (by decide)⟩
  rw [if_pos rfl] at h1
  by_cases e : i = q - 1
  · subst e; rw [offK_end hV h6, h]; rfl
  · exact g.1 i (by rw [if_pos hb]; omega) h2
theorem offG_f {pl fw : Int32} {bb : Bool} (g : offG C tr Y a c m pl q bb fw) (hb : bb = true) (hq : 1 ≤ q) (hq2 : q ≤ 21) (hV : InvY C Y) (h6 : C.2.2.2.2.2.2.1 < 6) (h : yrBr (runM (offE C) (offU C tr Y a c m (q - 1)) Y m) C.2.2.2.2.2.2.1 = false) : offG C tr Y a c m pl (q - 1) false (pl - flB (offE C) (offU C tr Y a c m (q - 1)) Y m) := by
  refine ⟨fun i h1 h2 => ?_, fun _ => ⟨by omega, by rw [offK_end hV h6, h]; rfl, rfl⟩⟩
  rw [if_neg Bool.false_ne_true] at h1
  exact g.1 i (by rw [if_pos hb]; omega) h2
def offF (M : MoV) (f : Nat → Int32) (C : CoV) (a c m w : Int32) : Nat → Int32 := if offOk C a c m w = true then (if C.2.2.2.2.2.2.1 < 6 then f else moRef M f 1) else moRef M f 0
theorem ofo_1 {n w : Int32} (h : stCell C c = false) : offOk C a c n w = false := by unfold offOk; rw [h]; simp
theorem ofo_2 {n w : Int32} (h : wi a 0 c = false) : offOk C a c n w = false := by
  unfold offOk
  by_cases e : a ≤ c
  · have : stCell C a = false := by
      unfold stCell
      unfold wi at h ⊢
      rw [decide_eq_true e, Bool.and_true] at h
      rw [h]; simp
    rw [this]; simp
  · rw [decide_eq_false e]; simp
theorem ofo_3 {n w : Int32} (h : wi n 1 12 = false) : offOk C a c n w = false := by unfold offOk; rw [h]; simp
theorem ofo_4 {n w : Int32} (h : wi w 0 1 = false) : offOk C a c n w = false := by unfold offOk; rw [h]; simp
theorem ofo_y {n w : Int32} (h1 : stCell C c = true) (h2 : wi a 0 c = true) (h3 : wi n 1 12 = true) (h4 : wi w 0 1 = true) : offOk C a c n w = true := by
  obtain ⟨q1, q2⟩ := wi_iff.mp h2
  obtain ⟨q3, q4⟩ := wi_iff.mp (show wi c 0 (nI (coN C) - 1) = true from h1)
  have ha : stCell C a = true := wi_iff.mpr ⟨q1, Int32.le_trans q2 q4⟩
  unfold offOk
  rw [h1, h3, h4, ha, decide_eq_true q2]; rfl
theorem of_bad {M : MoV} {f : Nat → Int32} {n w : Int32} (h : offOk C a c n w = false) : (-1000 : Int32) = offR C tr Y a c n w ∧ moRef M f 0 = offF M f C a c n w := by
  unfold offR offF; rw [h]; exact ⟨rfl, rfl⟩
theorem of_no {M : MoV} {f : Nat → Int32} {n w : Int32} (h : offOk C a c n w = true) (h6 : ¬ C.2.2.2.2.2.2.1 < 6) : (-2000 : Int32) = offR C tr Y a c n w ∧ moRef M f 1 = offF M f C a c n w := by
  unfold offR offF; rw [h, if_pos rfl, if_neg h6, if_pos rfl, if_neg h6]; exact ⟨rfl, rfl⟩
theorem of_end {M : MoV} {f : Nat → Int32} {w r pl fw : Int32} {bb : Bool} (h : offOk C a c (nI m) w = true) (h6 : C.2.2.2.2.2.2.1 < 6) (hn : C.1 ≤ 8) (hm : m ≤ 12) (hpl : pl = flB C tr Y m) (g : offG C tr Y a c m pl q bb fw) (hb : bb = false) (hr : (w = 0 ∧ r = nI q) ∨ (¬ w = 0 ∧ r = fw)) : r = offR C tr Y a c (nI m) w ∧ f = offF M f C a c (nI m) w := by
  obtain ⟨g1, g2⟩ := g
  obtain ⟨hq, hk, hf⟩ := g2 hb
  have e : offQ C tr Y a c m = q := downTo_eq (fun i h1 h2 => g1 i (by rw [hb, if_neg Bool.false_ne_true]; omega) h2) hq (Or.inl hk)
  refine ⟨?_, by unfold offF; rw [if_pos h, if_pos h6]⟩
  unfold offR offV
  rw [if_pos h, if_pos (show coTc C < 6 from h6), nI_clamp (by omega), e]
  rcases hr with ⟨h0, hr⟩ | ⟨h0, hr⟩
  · rw [if_pos h0]; exact hr
  · rw [if_neg h0, hr, hf, hpl, flB_pop hn, flB_pop (show (offE C).1 ≤ 8 from hn)]
end OF
theorem in_nat {a c : Int32} {jc : Nat} (h : wi a 0 c = true) (e : c = nI jc) (hb : jc < 2 ^ 31) : ∃ ja : Nat, ja ≤ jc ∧ a = nI ja := by
  obtain ⟨j, h1, h2⟩ := wi_nat 0 jc h rfl e ⟨by decide, hb⟩
  exact ⟨j, h1.2, h2⟩
