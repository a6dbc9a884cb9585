def dI (d : Nat) : Int32 := if d = 0 then -1 else nI (d - 1)
theorem dI_0 {d : Nat} (h : d < 1000) : dI d = -1 ↔ d = 0 := by
  unfold dI
  split
  · exact ⟨fun _ => by assumption, fun _ => rfl⟩
  · rename_i q; exact ⟨fun z => absurd z (nI_m1 (by omega)), fun z => absurd z q⟩
theorem dI_1 {d : Nat} (h : d < 1000) : dI d = 0 ↔ d = 1 := by
  unfold dI
  split
  · rename_i q; exact ⟨fun z => absurd z (by decide), fun z => by omega⟩
  · rename_i q
    rw [show (0 : Int32) = nI 0 from rfl, nI_eq (by omega) (by omega)]; omega
theorem dI_2 {d : Nat} (h : d < 1000) : dI d ≤ 0 ↔ ¬ 2 ≤ d := by
  unfold dI
  split
  · rename_i q; exact ⟨fun _ => by omega, fun _ => by decide⟩
  · rename_i q
    rw [show (0 : Int32) = nI 0 from rfl, nI_leI (by omega) (by omega)]; omega
/-- the class's text against the state -/
def scR (L : ScV) (S : PS) : Prop := L.2.1 = S.2.2.1 ∧ L.2.2.2.1 = dI S.2.1 ∧ (∀ i, i < S.2.2.1 → L.2.2.2.2.2.2 i = nI (S.2.2.2.1 i) ∧ ∀ k, k < nbN (S.2.2.2.1 i) → L.2.2.2.2.2.1 (6 * i + k) = S.2.2.2.2 i k) ∧ (1 ≤ S.2.1 → L.2.2.2.2.2.2 S.2.2.1 = nI (S.2.2.2.1 S.2.2.1) ∧ ∀ k, k < nbN (S.2.2.2.1 S.2.2.1) + 1 - S.2.1 → L.2.2.2.2.2.1 (6 * S.2.2.1 + k) = S.2.2.2.2 S.2.2.1 k)
/-- what taking a token answers and leaves -/
def tkP (g : Nat → Int32) (n : Nat) (S : PS) (r : Int32) (u : ScV) : Prop := (u.1 = n ∧ u.2.2.2.2.1 = g) ∧ ((r = nI 1 ∧ ∃ T, pStep g n S = some T ∧ scR u T ∧ u.2.2.1 = T.1) ∨ (r = nI 0 ∧ pStep g n S = none))
section SCR
variable {L : ScV} {S : PS} {p r w : Nat}
theorem tw_no {u : ScV} (eq : nxt L.2.2.2.2.1 L.1 S.1 = L.2.2.1) (hq : L.2.2.1 < L.1) (hl : isL (L.2.2.2.2.1 L.2.2.1) = true) (er : wE L.2.2.2.2.1 L.1 L.2.2.1 = r) (hu : u.1 = L.1 ∧ u.2.2.2.2.1 = L.2.2.2.2.1) (h : ¬ S.2.1 = 0 ∨ wIx L.2.2.2.2.1 L.2.2.1 r = 6 ∨ ¬ (wIx L.2.2.2.2.1 L.2.2.1 r = 0 ↔ S.2.2.1 = 0)) : tkP L.2.2.2.2.1 L.1 S (nI 0) u := by
  refine ⟨hu, Or.inr ⟨rfl, ?_⟩⟩
  rw [ps_w eq hq hl, er, if_neg]
  intro z
  rcases h with h | h | h
  · exact h z.1
  · omega
  · exact h z.2.2
theorem tw_ys (hR : scR L S) (eq : nxt L.2.2.2.2.1 L.1 S.1 = L.2.2.1) (hq : L.2.2.1 < L.1) (hl : isL (L.2.2.2.2.1 L.2.2.1) = true) (er : wE L.2.2.2.2.1 L.1 L.2.2.1 = r) (hd : S.2.1 = 0) (hw : w < 6) (ew : wIx L.2.2.2.2.1 L.2.2.1 r = w) (hm : w = 0 ↔ S.2.2.1 = 0) : tkP L.2.2.2.2.1 L.1 S (nI 1) (L.1, L.2.1, r, nI (nbN w), L.2.2.2.2.1, L.2.2.2.2.2.1, upd L.2.2.2.2.2.2 L.2.1 (nI w)) := by
  refine ⟨⟨rfl, rfl⟩, Or.inl ⟨rfl, (r, nbN w + 1, S.2.2.1, va_up S.2.2.2.1 S.2.2.1 w, S.2.2.2.2), by rw [ps_w eq hq hl, er, ew, if_pos ⟨hd, hw, hm⟩], ⟨hR.1, rfl, fun i hi => ?_, fun _ => ⟨?_, fun k hk => ?_⟩⟩, rfl⟩⟩
  · have hi2 : i < S.2.2.1 := hi
    have h1 := hR.1
    show upd L.2.2.2.2.2.2 L.2.1 (nI w) i = nI (va_up S.2.2.2.1 S.2.2.1 w i) ∧ ∀ k, k < nbN (va_up S.2.2.2.1 S.2.2.1 w i) → L.2.2.2.2.2.1 (6 * i + k) = S.2.2.2.2 i k
    rw [va_up_ne _ _ (by omega), pk_un (by omega)]
    exact hR.2.2.1 i hi2
  · show upd L.2.2.2.2.2.2 L.2.1 (nI w) S.2.2.1 = nI (va_up S.2.2.2.1 S.2.2.1 w S.2.2.1)
    rw [va_up_self, ← hR.1, pk_us]
  · have hk2 : k < nbN (va_up S.2.2.2.1 S.2.2.1 w S.2.2.1) + 1 - (nbN w + 1) := hk
    rw [va_up_self] at hk2
    omega
theorem tn_no {u : ScV} (eq : nxt L.2.2.2.2.1 L.1 S.1 = L.2.2.1) (hq : L.2.2.1 < L.1) (hl : isL (L.2.2.2.2.1 L.2.2.1) = false) (hf : isF (L.2.2.2.2.1 L.2.2.1) = true) (er : fE L.2.2.2.2.1 L.1 L.2.2.1 = r) (hu : u.1 = L.1 ∧ u.2.2.2.2.1 = L.2.2.2.2.1) (h : ¬ 2 ≤ S.2.1 ∨ ¬ r - L.2.2.1 ≤ 2) : tkP L.2.2.2.2.1 L.1 S (nI 0) u := by
  refine ⟨hu, Or.inr ⟨rfl, ?_⟩⟩
  rw [ps_f eq hq hl hf, er, if_neg]
  intro z
  rcases h with h | h
  · exact h z.1
  · exact h z.2
theorem tn_ys {v : Int32} (hR : scR L S) (eq : nxt L.2.2.2.2.1 L.1 S.1 = L.2.2.1) (hq : L.2.2.1 < L.1) (hl : isL (L.2.2.2.2.1 L.2.2.1) = false) (hf : isF (L.2.2.2.2.1 L.2.2.1) = true) (er : fE L.2.2.2.2.1 L.1 L.2.2.1 = r) (hd : 2 ≤ S.2.1) (hd7 : S.2.1 ≤ nbN (S.2.2.2.1 S.2.2.1) + 1) (h2 : r - L.2.2.1 ≤ 2) (hv : v = nVal L.2.2.2.2.1 L.2.2.1 (r - L.2.2.1)) : tkP L.2.2.2.2.1 L.1 S (nI 1) (L.1, L.2.1, r, L.2.2.2.1 - 1, L.2.2.2.2.1, upd L.2.2.2.2.2.1 (L.2.1 * 6 + (nbN (S.2.2.2.1 S.2.2.1) + 1 - S.2.1)) v, L.2.2.2.2.2.2) := by
  have hb := nbN_le (S.2.2.2.1 S.2.2.1)
  refine ⟨⟨rfl, rfl⟩, Or.inl ⟨rfl, (r, S.2.1 - 1, S.2.2.1, S.2.2.2.1, va_up S.2.2.2.2 S.2.2.1 (va_up (S.2.2.2.2 S.2.2.1) (nbN (S.2.2.2.1 S.2.2.1) + 1 - S.2.1) v)), by rw [ps_f eq hq hl hf, er, if_pos ⟨hd, h2⟩, ← hv], ⟨hR.1, ?_, fun i hi => ?_, fun _ => ⟨(hR.2.2.2 (by omega)).1, fun k hk => ?_⟩⟩, rfl⟩⟩
  · show L.2.2.2.1 - 1 = dI (S.2.1 - 1)
    rw [hR.2.1]
    unfold dI
    rw [if_neg (by omega), if_neg (by omega)]
    exact pk_sub (b := 1) (by omega)
  · have hi2 : i < S.2.2.1 := hi
    have h1 := hR.1
    have hb2 := nbN_le (S.2.2.2.1 i)
    refine ⟨(hR.2.2.1 i hi2).1, fun k hk => ?_⟩
    have hk2 : k < nbN (S.2.2.2.1 i) := hk
    show upd L.2.2.2.2.2.1 _ v (6 * i + k) = va_up S.2.2.2.2 S.2.2.1 _ i k
    rw [va_up_ne _ _ (by omega), pk_un (by omega)]
    exact (hR.2.2.1 i hi2).2 k hk2
  · have hk2 : k < nbN (S.2.2.2.1 S.2.2.1) + 1 - (S.2.1 - 1) := hk
    have h1 := hR.1
    show upd L.2.2.2.2.2.1 _ v (6 * S.2.2.1 + k) = va_up S.2.2.2.2 S.2.2.1 _ S.2.2.1 k
    rw [va_up_self]
    by_cases e : k = nbN (S.2.2.2.1 S.2.2.1) + 1 - S.2.1
    · subst e
      rw [va_up_self, show 6 * S.2.2.1 + (nbN (S.2.2.2.1 S.2.2.1) + 1 - S.2.1) = L.2.1 * 6 + (nbN (S.2.2.2.1 S.2.2.1) + 1 - S.2.1) by omega, pk_us]
    · rw [va_up_ne _ _ e, pk_un (by omega)]
      exact (hR.2.2.2 (by omega)).2 k (by omega)
theorem te_no {u : ScV} (eq : nxt L.2.2.2.2.1 L.1 S.1 = L.2.2.1) (hq : L.2.2.1 < L.1) (hl : isL (L.2.2.2.2.1 L.2.2.1) = false) (hf : isF (L.2.2.2.2.1 L.2.2.1) = false) (hu : u.1 = L.1 ∧ u.2.2.2.2.1 = L.2.2.2.2.1) (h : ¬ L.2.2.2.2.1 L.2.2.1 = 59 ∨ ¬ S.2.1 = 1) : tkP L.2.2.2.2.1 L.1 S (nI 0) u := by
  refine ⟨hu, Or.inr ⟨rfl, ?_⟩⟩
  rw [ps_o eq hq hl hf, if_neg]
  intro z
  rcases h with h | h
  · exact h z.1
  · exact h z.2
theorem te_ys (hR : scR L S) (eq : nxt L.2.2.2.2.1 L.1 S.1 = L.2.2.1) (hq : L.2.2.1 < L.1) (hl : isL (L.2.2.2.2.1 L.2.2.1) = false) (hf : isF (L.2.2.2.2.1 L.2.2.1) = false) (hs : L.2.2.2.2.1 L.2.2.1 = 59) (hd : S.2.1 = 1) : tkP L.2.2.2.2.1 L.1 S (nI 1) (L.1, L.2.1 + 1, L.2.2.1 + 1, -1, L.2.2.2.2) := by
  refine ⟨⟨rfl, rfl⟩, Or.inl ⟨rfl, _, by rw [ps_o eq hq hl hf, if_pos ⟨hs, hd⟩], ⟨by show L.2.1 + 1 = S.2.2.1 + 1; rw [hR.1], rfl, fun i hi => ?_, fun h => absurd (show 1 ≤ 0 from h) (by decide)⟩, rfl⟩⟩
  have hi2 : i < S.2.2.1 + 1 := hi
  have hz := hR.2.2.2 (by omega)
  by_cases e : i = S.2.2.1
  · subst e
    refine ⟨hz.1, fun k hk => hz.2 k ?_⟩
    have hk2 : k < nbN (S.2.2.2.1 S.2.2.1) := hk
    omega
  · exact hR.2.2.1 i (by omega)
theorem wv_nat {v : Int32} {x : Nat} (e : v = wI x) (h : ¬ v = -1) : ∃ w, (w < 6 ∧ x = w) ∧ v = nI w := by
  rw [e] at h
  obtain ⟨h1, h2⟩ := wI_2 h
  exact ⟨x, ⟨h1, rfl⟩, e.trans h2⟩
theorem nV_i {g : Nat → Int32} {v : Int32} (h1 : p ≤ r) (hv : v = nVal g p (r - p)) : 10 * v + g r - 48 = nVal g p (r + 1 - p) := by
  rw [show r + 1 - p = (r - p) + 1 by omega, nVal, ← hv, show p + (r - p) = r by omega]
/-- the class's parse at its end -/
def paE (L : ScV) (r : Int32) (u : ScV) : Prop := (u.1 = L.1 ∧ u.2.2.2.2.1 = L.2.2.2.2.1) ∧ ∃ S, pEnd L.2.2.2.2.1 L.1 S ∧ r = (if pOk L.2.2.2.2.1 L.1 S = true then -1 else nI (nxt L.2.2.2.2.1 L.1 S.1)) ∧ (pOk L.2.2.2.2.1 L.1 S = true → scR u S)
def paI (L L1 : ScV) (k : Nat) : Prop := (L1.1 = L.1 ∧ L1.2.2.2.2.1 = L.2.2.2.2.1) ∧ ∃ S, pR L.2.2.2.2.1 L.1 S ∧ scR L1 S ∧ L1.2.2.1 = S.1 ∧ k ≤ S.1
theorem pa_0 {x : ScV} (h1 : x.1 = L.1) (h2 : x.2.2.2.2.1 = L.2.2.2.2.1) (h3 : x.2.1 = 0) (h4 : x.2.2.1 = 0) (h5 : x.2.2.2.1 = -1) : paI L x 0 :=
  ⟨⟨h1, h2⟩, ps0, ⟨0, rfl⟩, ⟨h3, h5, fun i hi => absurd hi (Nat.not_lt_zero _), fun h => absurd h (by decide)⟩, h4, Nat.zero_le _⟩
theorem pa_b {L1 : ScV} {k : Nat} (h : paI L L1 k) : L1.1 = L.1 ∧ L1.2.2.1 ≤ L.1 ∧ L1.2.1 ≤ L.1 ∧ k ≤ L.1 := by
  obtain ⟨⟨h1, h2⟩, S, h3, h4, h5, h6⟩ := h
  obtain ⟨i1, i2, i3⟩ := pR_I h3
  have := h4.1
  refine ⟨h1, by omega, ?_, by omega⟩
  rcases i2 with q | q <;> omega
theorem sk_R {L1 : ScV} (hR : scR L1 S) : scR (L1.1, L1.2.1, p, L1.2.2.2.1, L1.2.2.2.2) S := hR
end SCR
theorem tk_nar {g : Nat → Int32} {n : Nat} {S : PS} {r : Int32} {u : ScV} (h : tkP g n S r u) : narrow .boolean (.int r) = .int r := by
  rcases h.2 with q | q
  · rw [q.1]; exact nar1
  · rw [q.1]; exact nar0
theorem tk_t {g : Nat → Int32} {n : Nat} {S : PS} {r : Int32} {u : ScV} (h : tkP g n S r u) (hr : ¬ r = 0) : tkP g n S (nI 1) u := by
  refine ⟨h.1, ?_⟩
  rcases h.2 with q | q
  · exact Or.inl ⟨rfl, q.2⟩
  · exact absurd q.1 hr
theorem tk_f {g : Nat → Int32} {n : Nat} {S : PS} {r : Int32} {u : ScV} (h : tkP g n S r u) (hr : r = 0) : tkP g n S (nI 0) u := by
  refine ⟨h.1, ?_⟩
  rcases h.2 with q | q
  · rw [hr] at q; exact absurd q.1 (by decide)
  · exact Or.inr ⟨rfl, q.2⟩
