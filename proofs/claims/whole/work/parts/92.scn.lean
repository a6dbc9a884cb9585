def atB (M : MoV) (g : Nat → Int32) (lo hi : Int32) : Bool := decide (M.2.2.1 < M.2.1) && wi (g M.2.2.1) lo hi
theorem at_t {M : MoV} {g : Nat → Int32} {lo hi : Int32} (h : atB M g lo hi = true) : M.2.2.1 < M.2.1 ∧ wi (g M.2.2.1) lo hi = true := by
  unfold atB at h
  rw [Bool.and_eq_true, decide_eq_true_eq] at h
  exact h
theorem at_f {M : MoV} {g : Nat → Int32} {lo hi : Int32} (h : atB M g lo hi = false) (hp : M.2.2.1 < M.2.1) : wi (g M.2.2.1) lo hi = false := by
  unfold atB at h
  rw [decide_eq_true hp, Bool.true_and] at h
  exact h
def vbI (h : Int64) : Int32 := if lg_cmp h 3638900 = 0 then 0 else if lg_cmp h 103820 = 0 then 1 else if lg_cmp h 140645 = 0 then 2 else if lg_cmp h 755156 = 0 then 3 else if lg_cmp h 441838 = 0 then 4 else if lg_cmp h 690128537 = 0 then 5 else -1
def hV (g : Nat → Int32) (q : Nat) : Nat → Int64
  | 0 => (0 : Int32).toInt64
  | k + 1 => 32 * hV g q k + (g (q + k)).toInt64 - 97 + (1 : Int32).toInt64
def hN (c : Nat → Nat) : Nat → Nat
  | 0 => 0
  | k + 1 => 32 * hN c k + (c k - 96)
theorem hN_lt {c : Nat → Nat} : ∀ {k : Nat}, k ≤ 6 → (∀ i, i < k → 97 ≤ c i ∧ c i ≤ 122) → hN c k < 32 ^ k
  | 0, _, _ => by show 0 < 1; decide
  | k + 1, hk, h => by
    have ih := hN_lt (c := c) (k := k) (by omega) (fun i hi => h i (by omega))
    have hc := h k (by omega)
    rw [hN, Nat.pow_succ]
    omega
theorem hV_n {g : Nat → Int32} {q : Nat} {c : Nat → Nat} : ∀ {k : Nat}, k ≤ 6 → (∀ i, i < k → g (q + i) = nI (c i) ∧ 97 ≤ c i ∧ c i ≤ 122) → hV g q k = lN (hN c k)
  | 0, _, _ => rfl
  | k + 1, hk, h => by
    have ih := hV_n (g := g) (q := q) (c := c) (k := k) (by omega) (fun i hi => h i (by omega))
    have hb := hN_lt (c := c) (k := k) (by omega) (fun i hi => (h i (by omega)).2)
    obtain ⟨e, h1, h2⟩ := h k (by omega)
    have hp : 32 ^ k ≤ 32 ^ 5 := Nat.pow_le_pow_right (by decide) (by omega)
    rw [hV, hN, ih, e, nI_l (by omega)]
    show lN 32 * lN (hN c k) + lN (c k) - lN 97 + lN 1 = _
    rw [lN_mul, lN_add, lN_sub (by omega), lN_add]
    congr 1
    omega
theorem cmp_n {a b : Nat} (ha : a < 2 ^ 31) (hb : b < 2 ^ 31) : lg_cmp (lN a) (lN b) = 0 ↔ a = b := by
  rw [lg_cmp_eq, lN_eq ha hb]
def wK : Nat → Nat
  | 0 => 3638900
  | 1 => 103820
  | 2 => 140645
  | 3 => 755156
  | 4 => 441838
  | _ => 690128537
theorem nI_lit {c : Nat} (hc : c < 2 ^ 31) (d : Nat) (hd : d < 2 ^ 31) : decide (nI c = nI d) = decide (c = d) := decide_eq_decide.mpr (nI_eq hc hd)
set_option maxHeartbeats 4000000 in
theorem spl_k {g : Nat → Int32} {q k : Nat} {c : Nat → Nat} (hk1 : 1 ≤ k) (hk : k ≤ 6) (h : ∀ i, i < k → g (q + i) = nI (c i) ∧ 97 ≤ c i ∧ c i ≤ 122) : ∀ j, j < 6 → (spl (wdL j) g q (q + k) = true ↔ hN c k = wK j) := by
  have hd : ∀ i d, i < k → d < 2 ^ 31 → (g (q + i) = nI d ↔ c i = d) := fun i d hi hd2 => by
    obtain ⟨e, h1, h2⟩ := h i hi
    rw [e, nI_eq (by omega) hd2]
  have hc : ∀ i, i < k → 97 ≤ c i ∧ c i ≤ 122 := fun i hi => (h i hi).2
  have key : ∀ j, j < 6 → (spl (wdL j) g q (q + k) = true ↔ (k = (wdL j).length ∧ ∀ i, i < (wdL j).length → g (q + i) = (wdL j).getD i 0)) := fun j hj => by
    unfold spl
    rw [Bool.and_eq_true, decide_eq_true_eq, show q + k - q = k by omega]
    have : ∀ {p : Nat → Bool} {n : Nat}, allN p n = true ↔ ∀ i, i < n → p i = true := by
      intro p n
      induction n with
      | zero => exact ⟨fun _ i hi => absurd hi (Nat.not_lt_zero _), fun _ => rfl⟩
      | succ n ih =>
        rw [allN, Bool.and_eq_true, ih]
        constructor
        · intro ⟨a, b⟩ i hi
          by_cases e : i = n
          · subst e; exact b
          · exact a i (by omega)
        · intro a
          exact ⟨fun i hi => a i (by omega), a n (by omega)⟩
    rw [this]
    simp only [decide_eq_true_eq]
  intro j hj
  rw [key j hj]
  have c0 := hc 0
  have c1 := hc 1
  have c2 := hc 2
  have c3 := hc 3
  have c4 := hc 4
  have c5 := hc 5
  have d0 := fun d hi hd2 => hd 0 d hi hd2
  constructor
  · intro ⟨e1, e2⟩
    have f : ∀ i d, i < (wdL j).length → (wdL j).getD i 0 = nI d → d < 2 ^ 31 → c i = d := fun i d hi e hd2 => (hd i d (by omega) hd2).mp ((e2 i hi).trans e)
    rcases (show j = 0 ∨ j = 1 ∨ j = 2 ∨ j = 3 ∨ j = 4 ∨ j = 5 by omega) with rfl | rfl | rfl | rfl | rfl | rfl
    · have e1 : k = 5 := e1
      subst e1
      have a0 := f 0 99 (by decide) rfl (by decide); have a1 := f 1 111 (by decide) rfl (by decide); have a2 := f 2 97 (by decide) rfl (by decide); have a3 := f 3 115 (by decide) rfl (by decide); have a4 := f 4 116 (by decide) rfl (by decide)
      simp only [hN, wK, a0, a1, a2, a3, a4]
    · have e1 : k = 4 := e1
      subst e1
      have a0 := f 0 99 (by decide) rfl (by decide); have a1 := f 1 101 (by decide) rfl (by decide); have a2 := f 2 108 (by decide) rfl (by decide); have a3 := f 3 108 (by decide) rfl (by decide)
      simp only [hN, wK, a0, a1, a2, a3]
    · have e1 : k = 4 := e1
      subst e1
      have a0 := f 0 100 (by decide) rfl (by decide); have a1 := f 1 105 (by decide) rfl (by decide); have a2 := f 2 107 (by decide) rfl (by decide); have a3 := f 3 101 (by decide) rfl (by decide)
      simp only [hN, wK, a0, a1, a2, a3]
    · have e1 : k = 4 := e1
      subst e1
      have a0 := f 0 119 (by decide) rfl (by decide); have a1 := f 1 97 (by decide) rfl (by decide); have a2 := f 2 110 (by decide) rfl (by decide); have a3 := f 3 116 (by decide) rfl (by decide)
      simp only [hN, wK, a0, a1, a2, a3]
    · have e1 : k = 4 := e1
      subst e1
      have a0 := f 0 109 (by decide) rfl (by decide); have a1 := f 1 111 (by decide) rfl (by decide); have a2 := f 2 111 (by decide) rfl (by decide); have a3 := f 3 110 (by decide) rfl (by decide)
      simp only [hN, wK, a0, a1, a2, a3]
    · have e1 : k = 6 := e1
      subst e1
      have a0 := f 0 116 (by decide) rfl (by decide); have a1 := f 1 114 (by decide) rfl (by decide); have a2 := f 2 101 (by decide) rfl (by decide); have a3 := f 3 97 (by decide) rfl (by decide); have a4 := f 4 116 (by decide) rfl (by decide); have a5 := f 5 121 (by decide) rfl (by decide)
      simp only [hN, wK, a0, a1, a2, a3, a4, a5]
  · intro e
    have fin : ∀ L : List Nat, (wdL j) = L.map nI → k = L.length → (∀ d ∈ L, d < 2 ^ 31) → (∀ i, i < k → c i = L.getD i 0) → k = (wdL j).length ∧ ∀ i, i < (wdL j).length → g (q + i) = (wdL j).getD i 0 := fun L hL hl hb hcc => by
      refine ⟨by rw [hL, List.length_map]; exact hl, fun i hi => ?_⟩
      rw [hL, List.length_map] at hi
      rw [hL, (h i (by omega)).1, hcc i (by omega)]
      simp [List.getD, hi]
    have kk : k = 1 ∨ k = 2 ∨ k = 3 ∨ k = 4 ∨ k = 5 ∨ k = 6 := by omega
    have sp : ∀ (n : Nat) (v : Nat → Nat), (∀ i, i < n → c i = v i) → ∀ i, i < n → c i = v i := fun n v h => h
    rcases (show j = 0 ∨ j = 1 ∨ j = 2 ∨ j = 3 ∨ j = 4 ∨ j = 5 by omega) with rfl | rfl | rfl | rfl | rfl | rfl
    · rcases kk with rfl | rfl | rfl | rfl | rfl | rfl
      all_goals simp only [hN, wK] at e
      · omega
      · omega
      · omega
      · omega
      · refine fin [99, 111, 97, 115, 116] rfl rfl (by decide) (fun i hi => ?_)
        rcases (show i = 0 ∨ i = 1 ∨ i = 2 ∨ i = 3 ∨ i = 4 by omega) with rfl | rfl | rfl | rfl | rfl
        · show c 0 = 99; omega
        · show c 1 = 111; omega
        · show c 2 = 97; omega
        · show c 3 = 115; omega
        · show c 4 = 116; omega
      · omega
    · rcases kk with rfl | rfl | rfl | rfl | rfl | rfl
      all_goals simp only [hN, wK] at e
      · omega
      · omega
      · omega
      · refine fin [99, 101, 108, 108] rfl rfl (by decide) (fun i hi => ?_)
        rcases (show i = 0 ∨ i = 1 ∨ i = 2 ∨ i = 3 by omega) with rfl | rfl | rfl | rfl
        · show c 0 = 99; omega
        · show c 1 = 101; omega
        · show c 2 = 108; omega
        · show c 3 = 108; omega
      · omega
      · omega
    · rcases kk with rfl | rfl | rfl | rfl | rfl | rfl
      all_goals simp only [hN, wK] at e
      · omega
      · omega
      · omega
      · refine fin [100, 105, 107, 101] rfl rfl (by decide) (fun i hi => ?_)
        rcases (show i = 0 ∨ i = 1 ∨ i = 2 ∨ i = 3 by omega) with rfl | rfl | rfl | rfl
        · show c 0 = 100; omega
        · show c 1 = 105; omega
        · show c 2 = 107; omega
        · show c 3 = 101; omega
      · omega
      · omega
    · rcases kk with rfl | rfl | rfl | rfl | rfl | rfl
      all_goals simp only [hN, wK] at e
      · omega
      · omega
      · omega
      · refine fin [119, 97, 110, 116] rfl rfl (by decide) (fun i hi => ?_)
        rcases (show i = 0 ∨ i = 1 ∨ i = 2 ∨ i = 3 by omega) with rfl | rfl | rfl | rfl
        · show c 0 = 119; omega
        · show c 1 = 97; omega
        · show c 2 = 110; omega
        · show c 3 = 116; omega
      · omega
      · omega
    · rcases kk with rfl | rfl | rfl | rfl | rfl | rfl
      all_goals simp only [hN, wK] at e
      · omega
      · omega
      · omega
      · refine fin [109, 111, 111, 110] rfl rfl (by decide) (fun i hi => ?_)
        rcases (show i = 0 ∨ i = 1 ∨ i = 2 ∨ i = 3 by omega) with rfl | rfl | rfl | rfl
        · show c 0 = 109; omega
        · show c 1 = 111; omega
        · show c 2 = 111; omega
        · show c 3 = 110; omega
      · omega
      · omega
    · rcases kk with rfl | rfl | rfl | rfl | rfl | rfl
      all_goals simp only [hN, wK] at e
      · omega
      · omega
      · omega
      · omega
      · omega
      · refine fin [116, 114, 101, 97, 116, 121] rfl rfl (by decide) (fun i hi => ?_)
        rcases (show i = 0 ∨ i = 1 ∨ i = 2 ∨ i = 3 ∨ i = 4 ∨ i = 5 by omega) with rfl | rfl | rfl | rfl | rfl | rfl
        · show c 0 = 116; omega
        · show c 1 = 114; omega
        · show c 2 = 101; omega
        · show c 3 = 97; omega
        · show c 4 = 116; omega
        · show c 5 = 121; omega
/-- a word's answer on the class's side and on the reference's -/
def wI (w : Nat) : Int32 := if w < 6 then nI w else -1
theorem wIx_le {g : Nat → Int32} {q e : Nat} : wIx g q e ≤ 6 := by
  unfold wIx
  repeat' split
  all_goals omega
theorem letters {g : Nat → Int32} {q r : Nat} (hl : ∀ i, q ≤ i → i < r → isL (g i) = true) : ∃ c : Nat → Nat, ∀ i, i < r - q → g (q + i) = nI (c i) ∧ 97 ≤ c i ∧ c i ≤ 122 := by
  have h : ∀ i, ∃ d : Nat, i < r - q → g (q + i) = nI d ∧ 97 ≤ d ∧ d ≤ 122 := fun i => by
    by_cases hi : i < r - q
    · obtain ⟨d, hd, e⟩ := wi_nat 97 122 (hl (q + i) (by omega) (by omega)) rfl rfl (by decide)
      exact ⟨d, fun _ => ⟨e, hd.1, hd.2⟩⟩
    · exact ⟨0, fun h => absurd h hi⟩
  exact Classical.axiomOfChoice h
theorem vb_ix {g : Nat → Int32} {q r : Nat} (h1 : q < r) (h6 : r - q ≤ 6) (hl : ∀ i, q ≤ i → i < r → isL (g i) = true) : vbI (hV g q (r - q)) = wI (wIx g q r) := by
  obtain ⟨c, hc⟩ := letters hl
  have hs := spl_k (by omega) h6 hc
  rw [show q + (r - q) = r by omega] at hs
  have hb := hN_lt (c := c) h6 (fun i hi => (hc i hi).2)
  have hb2 : 32 ^ (r - q) ≤ 32 ^ 6 := Nat.pow_le_pow_right (by decide) h6
  rw [hV_n h6 hc]
  unfold vbI wIx
  have k0 := hs 0 (by decide); have k1 := hs 1 (by decide); have k2 := hs 2 (by decide); have k3 := hs 3 (by decide); have k4 := hs 4 (by decide); have k5 := hs 5 (by decide)
  have m : ∀ K, K < 2 ^ 31 → (lg_cmp (lN (hN c (r - q))) (lN K) = 0 ↔ hN c (r - q) = K) := fun K hK => cmp_n (by omega) hK
  have m0 := m 3638900 (by decide); have m1 := m 103820 (by decide); have m2 := m 140645 (by decide); have m3 := m 755156 (by decide); have m4 := m 441838 (by decide); have m5 := m 690128537 (by decide)
  have q0 : lg_cmp (lN (hN c (r - q))) 3638900 = 0 ↔ spl (wdL 0) g q r = true := m0.trans k0.symm
  have q1 : lg_cmp (lN (hN c (r - q))) 103820 = 0 ↔ spl (wdL 1) g q r = true := m1.trans k1.symm
  have q2 : lg_cmp (lN (hN c (r - q))) 140645 = 0 ↔ spl (wdL 2) g q r = true := m2.trans k2.symm
  have q3 : lg_cmp (lN (hN c (r - q))) 755156 = 0 ↔ spl (wdL 3) g q r = true := m3.trans k3.symm
  have q4 : lg_cmp (lN (hN c (r - q))) 441838 = 0 ↔ spl (wdL 4) g q r = true := m4.trans k4.symm
  have q5 : lg_cmp (lN (hN c (r - q))) 690128537 = 0 ↔ spl (wdL 5) g q r = true := m5.trans k5.symm
  simp only [q0, q1, q2, q3, q4, q5]
  repeat' split
  all_goals rfl
theorem wIx_long {g : Nat → Int32} {q r : Nat} (h : 6 < r - q) : wIx g q r = 6 := by
  have hf : ∀ j, spl (wdL j) g q r = false := fun j => by
    unfold spl
    have : (wdL j).length ≤ 6 := by unfold wdL; split <;> decide
    rw [decide_eq_false (by omega)]; rfl
  unfold wIx
  simp only [hf, Bool.false_eq_true, if_false]
def tokG (g : Nat → Int32) (n p : Nat) (u : MoV) : Prop :=
  u.2.2.2.1 = nxt g n p ∧
  ((n ≤ nxt g n p ∧ u.2.2.2.2.1 = 0 ∧ u.2.2.1 = nxt g n p) ∨
   (nxt g n p < n ∧ isL (g (nxt g n p)) = true ∧ u.2.2.1 = wE g n (nxt g n p) ∧ ((wIx g (nxt g n p) (wE g n (nxt g n p)) = 6 ∧ u.2.2.2.2.1 = 1) ∨ (wIx g (nxt g n p) (wE g n (nxt g n p)) < 6 ∧ u.2.2.2.2.1 = 4 + wIx g (nxt g n p) (wE g n (nxt g n p))))) ∨
   (nxt g n p < n ∧ isL (g (nxt g n p)) = false ∧ isF (g (nxt g n p)) = true ∧ u.2.2.1 = fE g n (nxt g n p) ∧ ((2 < fE g n (nxt g n p) - nxt g n p ∧ u.2.2.2.2.1 = 1) ∨ (fE g n (nxt g n p) - nxt g n p ≤ 2 ∧ u.2.2.2.2.1 = 2 ∧ nI u.2.2.2.2.2.1 = nVal g (nxt g n p) (fE g n (nxt g n p) - nxt g n p)))) ∨
   (nxt g n p < n ∧ isL (g (nxt g n p)) = false ∧ isF (g (nxt g n p)) = false ∧ u.2.2.1 = nxt g n p + 1 ∧ ((g (nxt g n p) = 59 ∧ u.2.2.2.2.1 = 3) ∨ (¬ g (nxt g n p) = 59 ∧ u.2.2.2.2.1 = 1))))
theorem wi_one {c d : Int32} : wi c d d = true ↔ c = d := by
  rw [wi_iff]
  constructor
  · intro ⟨h1, h2⟩; exact Int32.le_antisymm h2 h1
  · intro h; rw [h]; exact ⟨Int32.le_refl _, Int32.le_refl _⟩
theorem sc_q {M : MoV} {g : Nat → Int32} {p0 : Nat} (h : p0 ≤ M.2.2.1 ∧ M.2.2.1 ≤ M.2.1) (hb : ∀ i, p0 ≤ i → i < M.2.2.1 → g i = 32) (c : atB M g 32 32 = false) : nxt g M.2.1 p0 = M.2.2.1 := by
  refine nxt_eq h.1 h.2 hb ?_
  by_cases e : M.2.2.1 = M.2.1
  · exact Or.inl e
  · refine Or.inr fun q => ?_
    have := at_f c (by omega)
    rw [wi_one.mpr q] at this
    exact absurd this (by decide)
theorem sc_b {M : MoV} {g : Nat → Int32} {p0 : Nat} (hb : ∀ i, p0 ≤ i → i < M.2.2.1 → g i = 32) (c : atB M g 32 32 = true) : ∀ i, p0 ≤ i → i < M.2.2.1 + 1 → g i = 32 := fun i h1 h2 => by
  by_cases e : i = M.2.2.1
  · subst e; exact wi_one.mp (at_t c).2
  · exact hb i h1 (by omega)
theorem run_b {P : Int32 → Bool} {g : Nat → Int32} {p r : Nat} (hb : ∀ i, p ≤ i → i < r → P (g i) = true) (c : P (g r) = true) : ∀ i, p ≤ i → i < r + 1 → P (g i) = true := fun i h1 h2 => by
  by_cases e : i = r
  · subst e; exact c
  · exact hb i h1 (by omega)
theorem at_or {M : MoV} {g : Nat → Int32} {lo hi : Int32} (h : M.2.2.1 ≤ M.2.1) (c : atB M g lo hi = false) : M.2.2.1 = M.2.1 ∨ wi (g M.2.2.1) lo hi = false := by
  by_cases e : M.2.2.1 = M.2.1
  · exact Or.inl e
  · exact Or.inr (at_f c (by omega))
section SCN
variable {M u : MoV} {g : Nat → Int32} {n p q r : Nat}
theorem sc_1 (eq : nxt g n p = q) (hq : n ≤ q) (h1 : u.2.2.2.1 = q) (h2 : u.2.2.2.2.1 = 0) (h3 : u.2.2.1 = q) : tokG g n p u := by
  unfold tokG; rw [eq]; exact ⟨h1, Or.inl ⟨hq, h2, h3⟩⟩
theorem sc_2 (eq : nxt g n p = q) (hq : q < n) (hl : isL (g q) = true) (hr : q ≤ r ∧ r ≤ n) (hrl : ∀ i, q ≤ i → i < r → isL (g i) = true) (ho : r = n ∨ isL (g r) = false) (h1 : u.2.2.2.1 = q) (h3 : u.2.2.1 = r) (h2 : (wIx g q r = 6 ∧ u.2.2.2.2.1 = 1) ∨ (wIx g q r < 6 ∧ u.2.2.2.2.1 = 4 + wIx g q r)) : tokG g n p u := by
  have e : wE g n q = r := wE_eq hr.1 hr.2 hrl ho
  unfold tokG; rw [eq, e]; exact ⟨h1, Or.inr (Or.inl ⟨hq, hl, h3, h2⟩)⟩
theorem sc_3 (eq : nxt g n p = q) (hq : q < n) (hl : isL (g q) = false) (hf : isF (g q) = true) (hr : q ≤ r ∧ r ≤ n) (hrl : ∀ i, q ≤ i → i < r → isF (g i) = true) (ho : r = n ∨ isF (g r) = false) (h1 : u.2.2.2.1 = q) (h3 : u.2.2.1 = r) (h2 : (2 < r - q ∧ u.2.2.2.2.1 = 1) ∨ (r - q ≤ 2 ∧ u.2.2.2.2.1 = 2 ∧ nI u.2.2.2.2.2.1 = nVal g q (r - q))) : tokG g n p u := by
  have e : fE g n q = r := fE_eq hr.1 hr.2 hrl ho
  unfold tokG; rw [eq, e]; exact ⟨h1, Or.inr (Or.inr (Or.inl ⟨hq, hl, hf, h3, h2⟩))⟩
theorem sc_4 (eq : nxt g n p = q) (hq : q < n) (hl : isL (g q) = false) (hf : isF (g q) = false) (h1 : u.2.2.2.1 = q) (h3 : u.2.2.1 = q + 1) (h2 : (g q = 59 ∧ u.2.2.2.2.1 = 3) ∨ (¬ g q = 59 ∧ u.2.2.2.2.1 = 1)) : tokG g n p u := by
  unfold tokG; rw [eq]; exact ⟨h1, Or.inr (Or.inr (Or.inr ⟨hq, hl, hf, h3, h2⟩))⟩
theorem wI_1 {w : Nat} (h : wI w = -1) (hw : w ≤ 6) : w = 6 := by
  unfold wI at h
  split at h
  · exact absurd h (nI_m1 (by omega))
  · omega
theorem wI_2 {w : Nat} (h : ¬ wI w = -1) : w < 6 ∧ wI w = nI w := by
  unfold wI at h ⊢
  split
  · exact ⟨by assumption, rfl⟩
  · rename_i q
    rw [if_neg q] at h
    exact absurd rfl h
theorem hV_s {h : Int64} (hr : p ≤ r) (c : r - p ≤ 5) (hh : r - p ≤ 6 → h = hV g p (r - p)) : r + 1 - p ≤ 6 → 32 * h + (g r).toInt64 - 97 + (1 : Int32).toInt64 = hV g p (r + 1 - p) := fun _ => by
  rw [show r + 1 - p = (r - p) + 1 by omega, hV, ← hh (by omega), show p + (r - p) = r by omega]
theorem nV_s {v d : Nat} (hr : p ≤ r) (hv : r - p ≤ 2 → nI v = nVal g p (r - p)) (c : ¬ 2 ≤ r - p) (e : g r = nI d) (hd : 48 ≤ d) : r + 1 - p ≤ 2 → nI (10 * v + d - 48) = nVal g p (r + 1 - p) := fun _ => by
  rw [show r + 1 - p = (r - p) + 1 by omega, nVal, ← hv (by omega), show p + (r - p) = r by omega, e]
  show _ = nI 10 * nI v + nI d - nI 48
  rw [pk_mul, nI_add, pk_sub (by omega)]
end SCN
