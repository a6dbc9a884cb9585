abbrev clS : Type := Nat × Option Int32
def clStep (w : Int32) (s : clS) (c : Bool) (v : Int32) : clS := if c = true then (s.1 + 1, if s.2 = none ∧ nI s.1 = w then some v else s.2) else s
def clIn (tr : Nat → TrV) (w : Int32) (a : Nat) (s : clS) : Nat → clS
  | 0 => s
  | k + 1 => clStep w (clIn tr w a s k) (clP tr a (a + 1 + k)) (nI (10 * a + (a + 1 + k)))
def clOut (tr : Nat → TrV) (w : Int32) (n : Nat) : Nat → clS
  | 0 => (0, none)
  | a + 1 => clIn tr w a (clOut tr w n a) (n - (a + 1))
def clR (tr : Nat → TrV) (n : Nat) (w : Int32) : Int32 := if w < -1 then -10 else match (clOut tr w n n).2 with
  | some v => v
  | none => if w = -1 then nI (clOut tr w n n).1 else -5
theorem clStep_keep {w v x : Int32} {s : clS} {c : Bool} (h : s.2 = some x) : (clStep w s c v).2 = some x := by
  unfold clStep
  split
  · show (if s.2 = none ∧ nI s.1 = w then some v else s.2) = some x
    rw [if_neg (by rw [h]; simp)]; exact h
  · exact h
theorem clIn_keep {tr : Nat → TrV} {w x : Int32} {a : Nat} {s : clS} : ∀ {k m : Nat}, (clIn tr w a s k).2 = some x → k ≤ m → (clIn tr w a s m).2 = some x
  | k, 0, h, hm => by have : k = 0 := by omega
                      subst this; exact h
  | k, m + 1, h, hm => by
    by_cases e : k = m + 1
    · subst e; exact h
    · rw [clIn]; exact clStep_keep (clIn_keep h (by omega))
theorem clOut_keep {tr : Nat → TrV} {w x : Int32} {n : Nat} : ∀ {k m : Nat}, (clOut tr w n k).2 = some x → k ≤ m → (clOut tr w n m).2 = some x
  | k, 0, h, hm => by have : k = 0 := by omega
                      subst this; exact h
  | k, m + 1, h, hm => by
    by_cases e : k = m + 1
    · subst e; exact h
    · rw [clOut]; exact clIn_keep (k := 0) (clOut_keep (k := k) (m := m) h (by omega)) (Nat.zero_le _)
theorem clR_hit {tr : Nat → TrV} {w : Int32} {n a b f : Nat} (hw : ¬ w < -1) (ha : a < n) (hb : a + 1 ≤ b) (hbn : b < n) (hs : ((f, none) : clS) = clIn tr w a (clOut tr w n a) (b - (a + 1))) (hc : clP tr a b = true) (he : nI f = w) : nI (10 * a + b) = clR tr n w := by
  have h1 : (clIn tr w a (clOut tr w n a) (b - (a + 1) + 1)).2 = some (nI (10 * a + b)) := by
    rw [clIn, ← hs, show a + 1 + (b - (a + 1)) = b by omega, hc]
    unfold clStep
    rw [if_pos rfl]
    show (if (none : Option Int32) = none ∧ nI f = w then some (nI (10 * a + b)) else none) = _
    rw [if_pos ⟨rfl, he⟩]
  have h2 : (clOut tr w n (a + 1)).2 = some (nI (10 * a + b)) := by rw [clOut]; exact clIn_keep h1 (by omega)
  have h3 := clOut_keep h2 (show a + 1 ≤ n by omega)
  unfold clR
  rw [if_neg hw, h3]
theorem clR_end {tr : Nat → TrV} {w : Int32} {n f : Nat} (hw : ¬ w < -1) (hs : ((f, none) : clS) = clOut tr w n n) : clR tr n w = if w = -1 then nI f else -5 := by
  unfold clR
  rw [if_neg hw, ← hs]
theorem clIn_no {tr : Nat → TrV} {w : Int32} {a b f : Nat} {s : clS} (hb : a + 1 ≤ b) (hs : ((f, none) : clS) = clIn tr w a s (b - (a + 1))) (hc : clP tr a b = false) : ((f, none) : clS) = clIn tr w a s (b + 1 - (a + 1)) := by
  rw [show b + 1 - (a + 1) = b - (a + 1) + 1 by omega, clIn, ← hs, show a + 1 + (b - (a + 1)) = b by omega, hc]; rfl
theorem clIn_ys {tr : Nat → TrV} {w : Int32} {a b f : Nat} {s : clS} (hb : a + 1 ≤ b) (hs : ((f, none) : clS) = clIn tr w a s (b - (a + 1))) (hc : clP tr a b = true) (he : ¬ nI f = w) : ((f + 1, none) : clS) = clIn tr w a s (b + 1 - (a + 1)) := by
  rw [show b + 1 - (a + 1) = b - (a + 1) + 1 by omega, clIn, ← hs, show a + 1 + (b - (a + 1)) = b by omega, hc]
  unfold clStep
  rw [if_pos rfl]
  show _ = (f + 1, if (none : Option Int32) = none ∧ nI f = w then _ else none)
  rw [if_neg (fun h => he h.2)]
def dkUp (Y : YrV) (x : Nat) (f : Int32) : YrV := (Y.1, Y.2.1, Y.2.2.1, upd Y.2.2.2.1 x (Y.2.2.2.1 x + f), Y.2.2.2.2)
def drP (C : CoV) (tr : Nat → TrV) (Y : YrV) (q : Int32) (k : Nat) : Bool := decide (coNextF C tr (runM C tr Y k) &&& q = 0)
def sdP (C : CoV) (tr : Nat → TrV) (Y : YrV) (q : Int32) (m x : Nat) (f : Int32) : Bool := decide (Y.2.2.2.1 x + f ≤ 9) && allN (drP C tr (dkUp Y x f) q) m
def chX (C : CoV) (tr : Nat → TrV) (Y : YrV) (q : Int32) (m f : Nat) : Nat := firstN (fun x => sdP C tr Y q m x (nI f)) (coN C)
def chF (C : CoV) (tr : Nat → TrV) (Y : YrV) (q : Int32) (m : Nat) : Nat := firstN (fun f => decide (chX C tr Y q m f < coN C)) 10
def chOk (C : CoV) (q m w : Int32) : Bool := wi q 0 (bit (coN C) - 1) && wi m 1 12 && wi w 0 1
def chV (C : CoV) (tr : Nat → TrV) (Y : YrV) (q : Int32) (m : Nat) (w : Int32) : Int32 := if chF C tr Y q m < 10 then (if w = 0 then nI (chF C tr Y q m) else nI (chX C tr Y q m (chF C tr Y q m))) else -1
def chR (C : CoV) (tr : Nat → TrV) (Y : YrV) (q m w : Int32) : Int32 := if chOk C q m w = true then chV C tr Y q m.toNatClampNeg w else -10
def voS (C : CoV) (Y Z : YrV) (n : Int32) : Nat → Int32 × Int32
  | 0 => (0, 0)
  | x + 1 => if yrLost Y x = true then voS C Y Z n x else if Z.2.2.2.2 x - Y.2.2.2.2 x ≤ n then ((voS C Y Z n x).1, (voS C Y Z n x).2 + coWo C x / 10) else ((voS C Y Z n x).1 + coWo C x / 10, (voS C Y Z n x).2)
def voOk (m n w : Int32) : Bool := wi m 1 12 && wi n 0 12 && wi w 0 1
def voR (C : CoV) (tr : Nat → TrV) (Y : YrV) (m n w : Int32) : Int32 := if voOk m n w = true then (if w = 0 then (voS C Y (runM C tr Y m.toNatClampNeg) n (coN C)).1 else (voS C Y (runM C tr Y m.toNatClampNeg) n (coN C)).2) else -2
def drX (h : Int64) : Nat → Int64
  | 0 => h
  | k + 1 => (drX h k * 1103515245 + 12345) - (drX h k * 1103515245 + 12345) / 2147483648 * 2147483648
def drS (C : CoV) (h : Int64) (k : Nat) (Z : YrV) : Int32 := (drX h (k + 1) / 65536 - drX h (k + 1) / 65536 / 16 * 16).toInt32 + coMore C Z.1
def drM (C : CoV) (tr : Nat → TrV) (Y : YrV) (h : Int64) : Nat → YrV
  | 0 => Y
  | k + 1 => coYear C tr (drM C tr Y h k) (drS C h k (drM C tr Y h k))
def drF (C : CoV) (tr : Nat → TrV) (Y : YrV) (h : Int64) : Nat → Int32
  | 0 => 0
  | k + 1 => coFl C tr (drM C tr Y h k) (drS C h k (drM C tr Y h k))
def dwOk (m q w : Int32) : Bool := wi m 0 30 && wi q 0 999999 && wi w 0 4
def dwR (C : CoV) (tr : Nat → TrV) (Y : YrV) (m q w : Int32) : Int32 := if dwOk m q w = true then outV C (drM C tr Y q.toInt64 m.toNatClampNeg) (drF C tr Y q.toInt64 m.toNatClampNeg) w else -2
def digA (C : CoV) (Y : YrV) (pc len : Nat) : Nat → Int64
  | 0 => 907
  | i + 1 => 31 * digA C Y pc len i + (amV C Y pc len (nI i)).toInt64
def digR (C : CoV) (tr : Nat → TrV) (Y : YrV) (pc len : Nat) : Int64 := coMixT C (stMixT tr Y (stMixC C Y (mixF (coWn C) (digA C Y pc len 8) 8) (coN C)) (coTc C)) (coDc C)
def pastPush (Y : YrV) (pc : Nat) (P : Nat → YrV) : Nat × (Nat → YrV) := if pc < 6 then (pc + 1, va_up P pc Y) else (6, va_up (rotV P) 5 Y)
def yrsRun (C : CoV) (tr : Nat → TrV) (Y : YrV) (pc : Nat) (P : Nat → YrV) : Nat → YrV × Nat × (Nat → YrV)
  | 0 => (Y, pc, P)
  | n + 1 => (coNext C tr (yrsRun C tr Y pc P n).1, pastPush (yrsRun C tr Y pc P n).1 (yrsRun C tr Y pc P n).2.1 (yrsRun C tr Y pc P n).2.2)
def yeOk (Y : YrV) (n : Int32) : Bool := wi n 1 9 && decide (Y.1 ≤ 900)
def yeR (C : CoV) (tr : Nat → TrV) (Y : YrV) (n : Int32) : Int32 := if wi n 1 9 = true then (if Y.1 ≤ 900 then (yrsRun C tr Y 0 (fun _ => Y) n.toNatClampNeg).1.2.1 else -3) else -2
def yeS (C : CoV) (tr : Nat → TrV) (Y : YrV) (pc : Nat) (P : Nat → YrV) (n : Int32) : YrV × Nat × (Nat → YrV) := if yeOk Y n = true then yrsRun C tr Y pc P n.toNatClampNeg else (Y, pc, P)
def yeV (V : V3) (Y : YrV) (n : Int32) : V3 := if wi n 1 9 = true then (if Y.1 ≤ 900 then V else ttRef V (-3)) else ttRef V (-2)
theorem yrsRun_1 {C : CoV} {tr : Nat → TrV} {Y : YrV} {pc pc' : Nat} {P P' : Nat → YrV} : ∀ n, (yrsRun C tr Y pc P n).1 = (yrsRun C tr Y pc' P' n).1
  | 0 => rfl
  | n + 1 => by rw [yrsRun, yrsRun, yrsRun_1 n]
theorem ch_hit {C : CoV} {tr : Nat → TrV} {Y : YrV} {q w r : Int32} {j f x : Nat} {V : V3} {Q : YrV} (hok : chOk C q (nI j) w = true) (hj : j < 2 ^ 31) (e1 : chX C tr Y q j f = x) (e2 : chF C tr Y q j = f) (hf : f < 10) (hr : (w = 0 ∧ r = nI f) ∨ (¬ w = 0 ∧ r = nI x)) : r = chR C tr Y q (nI j) w ∧ ((V, Q) : V3 × YrV).1 = stV V (chOk C q (nI j) w) := by
  refine ⟨?_, by unfold stV; rw [if_pos hok]⟩
  unfold chR chV
  rw [if_pos hok, nI_clamp hj, e2, if_pos hf, e1]
  rcases hr with h | h
  · rw [if_pos h.1]; exact h.2
  · rw [if_neg h.1]; exact h.2
theorem ch_none {C : CoV} {tr : Nat → TrV} {Y : YrV} {q w : Int32} {j : Nat} {V : V3} {Q : YrV} (hok : chOk C q (nI j) w = true) (hj : j < 2 ^ 31) (e2 : chF C tr Y q j = 10) : (-1 : Int32) = chR C tr Y q (nI j) w ∧ ((V, Q) : V3 × YrV).1 = stV V (chOk C q (nI j) w) := by
  refine ⟨?_, by unfold stV; rw [if_pos hok]⟩
  unfold chR chV
  rw [if_pos hok, nI_clamp hj, e2, if_neg (by omega)]
theorem vo_l {C : CoV} {Y Z : YrV} {n f g : Int32} {x : Nat} (h : (f, g) = voS C Y Z n x) (h1 : yrLost Y x = true) : (f, g) = voS C Y Z n (x + 1) := by rw [voS, if_pos h1]; exact h
theorem vo_s {C : CoV} {Y Z : YrV} {n f g : Int32} {x : Nat} (h : (f, g) = voS C Y Z n x) (h1 : yrLost Y x = false) (h2 : Z.2.2.2.2 x - Y.2.2.2.2 x ≤ n) : (f, g + C.2.2.2.1 x / 10) = voS C Y Z n (x + 1) := by rw [voS, if_neg (by rw [h1]; exact Bool.false_ne_true), if_pos h2, ← h]
theorem vo_g {C : CoV} {Y Z : YrV} {n f g : Int32} {x : Nat} (h : (f, g) = voS C Y Z n x) (h1 : yrLost Y x = false) (h2 : ¬ Z.2.2.2.2 x - Y.2.2.2.2 x ≤ n) : (f + C.2.2.2.1 x / 10, g) = voS C Y Z n (x + 1) := by rw [voS, if_neg (by rw [h1]; exact Bool.false_ne_true), if_neg h2, ← h]
theorem vo_end {C : CoV} {tr : Nat → TrV} {Y : YrV} {n w f g r : Int32} {j : Nat} (hok : voOk (nI j) n w = true) (hj : j < 2 ^ 31) (h : (f, g) = voS C Y (runM C tr Y j) n C.1) (hr : (w = 0 ∧ r = f) ∨ (¬ w = 0 ∧ r = g)) : r = voR C tr Y (nI j) n w := by
  unfold voR
  rw [if_pos hok, nI_clamp hj, ← h]
  rcases hr with h | h
  · rw [if_pos h.1]; exact h.2
  · rw [if_neg h.1]; exact h.2
theorem yr_b {C : CoV} {tr : Nat → TrV} {Y Q : YrV} {pc i : Nat} {P R : Nat → YrV} (h : ((Q, 6, R) : YrV × Nat × (Nat → YrV)) = yrsRun C tr Y pc P i) : (coNext C tr Q, 6, va_up (rotV R) 5 Q) = yrsRun C tr Y pc P (i + 1) := by
  rw [yrsRun, ← h]; rfl
theorem yr_a {C : CoV} {tr : Nat → TrV} {Y Q : YrV} {pc i g : Nat} {P R : Nat → YrV} (h : (Q, g, R) = yrsRun C tr Y pc P i) (hg : g < 6) : (coNext C tr Q, g + 1, va_up R g Q) = yrsRun C tr Y pc P (i + 1) := by
  rw [yrsRun, ← h]
  show _ = (coNext C tr Q, pastPush Q g R)
  unfold pastPush
  rw [if_pos hg]
theorem ye_bad1 {C : CoV} {tr : Nat → TrV} {Y : YrV} {V : V3} {pc : Nat} {P : Nat → YrV} {n : Int32} {o : Nat → Nat → Nat} (h : wi n 1 9 = false) : (-2 : Int32) = yeR C tr Y n ∧ ((ttRef V (-2), Y, pc, P, o) : V3 × YrV × Nat × (Nat → YrV) × (Nat → Nat → Nat)).1 = yeV V Y n ∧ (Y, pc, P) = yeS C tr Y pc P n := by
  unfold yeR yeV yeS yeOk
  rw [h]
  exact ⟨rfl, rfl, rfl⟩
theorem ye_bad2 {C : CoV} {tr : Nat → TrV} {Y : YrV} {V : V3} {pc : Nat} {P : Nat → YrV} {n : Int32} {o : Nat → Nat → Nat} (h : wi n 1 9 = true) (h2 : ¬ Y.1 ≤ 900) : (-3 : Int32) = yeR C tr Y n ∧ ((ttRef V (-3), Y, pc, P, o) : V3 × YrV × Nat × (Nat → YrV) × (Nat → Nat → Nat)).1 = yeV V Y n ∧ (Y, pc, P) = yeS C tr Y pc P n := by
  unfold yeR yeV yeS yeOk
  rw [h, if_pos rfl, if_neg h2, if_pos rfl, if_neg h2, decide_eq_false h2]
  exact ⟨rfl, rfl, rfl⟩
theorem ye_ok {C : CoV} {tr : Nat → TrV} {Y Q : YrV} {V : V3} {pc g j : Nat} {P R : Nat → YrV} {o : Nat → Nat → Nat} (h : wi (nI j) 1 9 = true) (h2 : Y.1 ≤ 900) (hj : j < 2 ^ 31) (hQ : (Q, g, R) = yrsRun C tr Y pc P j) : Q.2.1 = yeR C tr Y (nI j) ∧ ((V, Q, g, R, o) : V3 × YrV × Nat × (Nat → YrV) × (Nat → Nat → Nat)).1 = yeV V Y (nI j) ∧ (Q, g, R) = yeS C tr Y pc P (nI j) := by
  unfold yeR yeV yeS yeOk
  rw [h, if_pos rfl, if_pos h2, if_pos rfl, if_pos h2, decide_eq_true h2, nI_clamp hj]
  refine ⟨?_, rfl, ?_⟩
  · rw [yrsRun_1 (pc' := pc) (P' := P), ← hQ]
  · exact hQ
