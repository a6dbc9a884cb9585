theorem cnt_0 {p : Nat → Bool} : ∀ {n : Nat}, n < 2 ^ 31 → (fstN p n = -1 ↔ cntN p n = 0)
  | 0, _ => ⟨fun _ => rfl, fun _ => rfl⟩
  | n + 1, h => by
    have ih := cnt_0 (p := p) (n := n) (by omega)
    by_cases e : p n = true
    · have h1 : cntN p (n + 1) = cntN p n + 1 := by rw [cntN, if_pos e]
      have h2 : ¬ nI n = -1 := by
        intro q
        have := congrArg Int32.toInt q
        rw [nI_toInt (by omega)] at this
        have e2 : (-1 : Int32).toInt = -1 := by decide
        omega
      have h3 : ¬ fstN p (n + 1) = -1 := by
        by_cases e2 : cntN p n = 0
        · rw [fstN, if_pos ⟨e, e2⟩]; exact h2
        · rw [fstN, if_neg (fun q => e2 q.2)]; exact fun q => e2 (ih.mp q)
      exact ⟨fun q => absurd q h3, fun q => by omega⟩
    · have h1 : cntN p (n + 1) = cntN p n := by rw [cntN, if_neg e]
      have h2 : fstN p (n + 1) = fstN p n := by rw [fstN, if_neg (fun q => e q.1)]
      rw [h1, h2]; exact ih
theorem fst_m {p : Nat → Bool} {i n : Nat} {b : Int32} (hi : i < 2 ^ 31) (hb : b = fstN p i) (hc : n = cntN p i) (h : p i = true) (h0 : b = -1) : nI i = fstN p (i + 1) :=
  fst_ys hc h (hc.trans ((cnt_0 hi).mp (hb.symm.trans h0)))
theorem fst_o {p : Nat → Bool} {i n : Nat} {b : Int32} (hi : i < 2 ^ 31) (hb : b = fstN p i) (hc : n = cntN p i) (h : p i = true) (h0 : ¬ b = -1) : b = fstN p (i + 1) :=
  fst_nn hb hc h (fun q => h0 (hb.trans ((cnt_0 hi).mpr (hc.symm.trans q))))
theorem cnt_y {p : Nat → Bool} {i n : Nat} (hc : n = cntN p i) (h : p i = true) : n + 1 = cntN p (i + 1) := by rw [cntN, if_pos h, hc]
theorem cnt_n {p : Nat → Bool} {i n : Nat} (hc : n = cntN p i) (h : p i = false) : n = cntN p (i + 1) := by rw [cntN, if_neg (by rw [h]; exact Bool.false_ne_true), hc]
theorem re_1 {C : CoV} {tr : Nat → TrV} {Y : YrV} {q : Int32} {t : Nat} {a : Bool} (ha : a = allN (restP C tr Y q) t) (h : a = false) : false = allN (restP C tr Y q) (t + 1) := by
  rw [allN, ← ha, h]; rfl
theorem re_2 {C : CoV} {tr : Nat → TrV} {Y : YrV} {q : Int32} {t : Nat} {a : Bool} (ha : a = allN (restP C tr Y q) t) (h : a = true) (h2 : ¬ lossV C tr Y t (q ^^^ bit t) < lossV C tr Y t q) : true = allN (restP C tr Y q) (t + 1) := by
  rw [allN, ← ha, h, Bool.true_and]; unfold restP; rw [decide_eq_false h2]; rfl
theorem re_3 {C : CoV} {tr : Nat → TrV} {Y : YrV} {q : Int32} {t : Nat} {a : Bool} (ha : a = allN (restP C tr Y q) t) (h2 : lossV C tr Y t (q ^^^ bit t) < lossV C tr Y t q) : false = allN (restP C tr Y q) (t + 1) := by
  rw [allN]; unfold restP; rw [decide_eq_true h2]; simp
def shC (tr : Nat → TrV) (i j : Nat) : Bool := !decide ((tr j).2.2.2.1 < (tr i).2.2.1) && !decide ((tr i).2.2.2.1 < (tr j).2.2.1)
def shY (f t g u : Int32) : Bool := !decide (t ≤ f) && !decide (u ≤ g) && !decide (u ≤ f) && !decide (t ≤ g)
theorem shY_eq {f t g u : Int32} : decide (imax f g < imin t u) = shY f t g u := by
  unfold shY
  rw [Bool.eq_iff_iff]
  simp only [decide_eq_true_eq, Bool.and_eq_true, Bool.not_eq_true', decide_eq_false_iff_not, imax, imin, Int32.lt_iff_toInt_lt, Int32.le_iff_toInt_le]
  split <;> split <;> omega
theorem trb_fin : ∀ a b c d : Fin 8, a ≤ b → c ≤ d → (((((2 : Int32) <<< (nI b.1 &&& 31)) - ((1 : Int32) <<< (nI a.1 &&& 31))) &&& (((2 : Int32) <<< (nI d.1 &&& 31)) - ((1 : Int32) <<< (nI c.1 &&& 31))) ≠ 0) ↔ (a ≤ d ∧ c ≤ b)) := by decide +kernel
theorem clP_eq {C : CoV} {tr : Nat → TrV} {Y : YrV} (h : Inv C tr Y) {i j : Nat} (hi : i < C.2.2.2.2.2.2.1) (hj : j < C.2.2.2.2.2.2.1) : clP tr i j = (shC tr i j && shY (tr i).2.2.2.2.1 (tr i).2.2.2.2.2.1 (tr j).2.2.2.2.1 (tr j).2.2.2.2.2.1) := by
  have hn := inv_n h
  obtain ⟨a, b, f, u, e1, e2, hab, hb, -⟩ := inv_tr h hi
  obtain ⟨c, d, f', u', e3, e4, hcd, hd, -⟩ := inv_tr h hj
  have key := trb_fin ⟨a, by omega⟩ ⟨b, by omega⟩ ⟨c, by omega⟩ ⟨d, by omega⟩ hab hcd
  have k1 : decide (trBits (tr i) &&& trBits (tr j) ≠ 0) = shC tr i j := by
    unfold trBits shC
    rw [show (tr i).2.2.1 = nI a from e1, show (tr i).2.2.2.1 = nI b from e2, show (tr j).2.2.1 = nI c from e3, show (tr j).2.2.2.1 = nI d from e4, e1, e2, e3, e4, decide_eq_decide.mpr key, Bool.decide_and]
    have q1 : (nI d < nI a) ↔ ¬ a ≤ d := by rw [Int32.lt_iff_toInt_lt, nI_toInt (by omega), nI_toInt (by omega)]; omega
    have q2 : (nI b < nI c) ↔ ¬ c ≤ b := by rw [Int32.lt_iff_toInt_lt, nI_toInt (by omega), nI_toInt (by omega)]; omega
    rw [decide_eq_decide.mpr q1, decide_eq_decide.mpr q2, decide_not, decide_not, Bool.not_not, Bool.not_not]
    rfl
  unfold clP
  rw [k1, shY_eq]
def clG (w : Int32) (s : clS) (n : Nat) (h : Int32) : Prop := s.1 = n ∧ h = s.2.getD (-5) ∧ (s.2 ≠ none → w < nI n ∧ ¬ w = -1)
theorem nI_m1 {n : Nat} (h : n < 2 ^ 31) : ¬ nI n = -1 := by
  intro q
  have := congrArg Int32.toInt q
  rw [nI_toInt (by omega)] at this
  have e2 : (-1 : Int32).toInt = -1 := by decide
  omega
theorem lt_n1 {w : Int32} {n : Nat} (h : n < 2 ^ 30) (hw : w ≤ nI n) : w < nI (n + 1) := by
  rw [Int32.lt_iff_toInt_lt, nI_toInt (by omega)]
  rw [Int32.le_iff_toInt_le, nI_toInt (by omega)] at hw
  omega
theorem clG_hit {w v h : Int32} {s : clS} {n : Nat} (hn : n < 2 ^ 30) (g : clG w s n h) (e : nI n = w) : clG w (clStep w s true v) (n + 1) v := by
  obtain ⟨g1, g2, g3⟩ := g
  have hs : s.2 = none := by
    apply Classical.byContradiction
    intro q
    have := (g3 q).1
    rw [e] at this
    rw [Int32.lt_iff_toInt_lt] at this; omega
  have es : clStep w s true v = (n + 1, some v) := by
    unfold clStep
    rw [if_pos rfl, g1, if_pos ⟨hs, e⟩]
  rw [es]
  exact ⟨rfl, rfl, fun _ => ⟨lt_n1 hn (by rw [e]; exact Int32.le_refl w), by rw [← e]; exact nI_m1 (by omega)⟩⟩
theorem clG_ys {w v h : Int32} {s : clS} {n : Nat} (hn : n < 2 ^ 30) (g : clG w s n h) (e : ¬ nI n = w) : clG w (clStep w s true v) (n + 1) h := by
  obtain ⟨g1, g2, g3⟩ := g
  have es : clStep w s true v = (n + 1, s.2) := by
    unfold clStep
    rw [if_pos rfl, g1, if_neg (fun q => e q.2)]
  rw [es]
  exact ⟨rfl, g2, fun q => ⟨lt_n1 hn (Int32.le_of_lt (g3 q).1), (g3 q).2⟩⟩
theorem clI_no {tr : Nat → TrV} {w h : Int32} {a b n : Nat} {s : clS} (hb : a + 1 ≤ b) (g : clG w (clIn tr w a s (b - (a + 1))) n h) (hc : clP tr a b = false) : clG w (clIn tr w a s (b + 1 - (a + 1))) n h := by
  rw [show b + 1 - (a + 1) = b - (a + 1) + 1 by omega, clIn, show a + 1 + (b - (a + 1)) = b by omega, hc]; exact g
theorem clI_hit {tr : Nat → TrV} {w h : Int32} {a b n : Nat} {s : clS} (hn : n < 2 ^ 30) (hb : a + 1 ≤ b) (g : clG w (clIn tr w a s (b - (a + 1))) n h) (hc : clP tr a b = true) (e : nI n = w) : clG w (clIn tr w a s (b + 1 - (a + 1))) (n + 1) (nI (10 * a + b)) := by
  rw [show b + 1 - (a + 1) = b - (a + 1) + 1 by omega, clIn, show a + 1 + (b - (a + 1)) = b by omega, hc]; exact clG_hit hn g e
theorem clI_ys {tr : Nat → TrV} {w h : Int32} {a b n : Nat} {s : clS} (hn : n < 2 ^ 30) (hb : a + 1 ≤ b) (g : clG w (clIn tr w a s (b - (a + 1))) n h) (hc : clP tr a b = true) (e : ¬ nI n = w) : clG w (clIn tr w a s (b + 1 - (a + 1))) (n + 1) h := by
  rw [show b + 1 - (a + 1) = b - (a + 1) + 1 by omega, clIn, show a + 1 + (b - (a + 1)) = b by omega, hc]; exact clG_ys hn g e
theorem clG_end {tr : Nat → TrV} {w h : Int32} {n k : Nat} (hw : ¬ w < -1) (g : clG w (clOut tr w n n) k h) : clR tr n w = if w = -1 then nI k else h := by
  obtain ⟨g1, g2, g3⟩ := g
  unfold clR
  rw [if_neg hw]
  generalize clOut tr w n n = s at g1 g2 g3 ⊢
  obtain ⟨s1, s2⟩ := s
  cases s2 with
  | none =>
    show (if w = -1 then nI s1 else -5) = _
    rw [show s1 = k from g1]
    rw [show h = -5 from g2]
  | some v =>
    show v = _
    rw [if_neg (g3 (by simp)).2]
    exact g2.symm
def bitsN (q : Int32) : Nat → Int32
  | 0 => 0
  | i + 1 => bitsN q i + (q >>> nI i &&& 1)
theorem and_f3 {a b : Bool} (h : b = false) : (a && b) = false := by rw [h]; simp
