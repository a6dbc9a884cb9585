abbrev St3 : Type := CoV × (Nat → TrV) × YrV
/-- an item told: its answer, the coast behind it -/
def tIR (w : Nat) (v : Nat → Int32) (X : St3) : Int32 := if w = 0 then tCoR (v 0) X.1 else if w = 1 then tCeR X.1 (v 0) (v 1) (v 2) (v 3) else if w = 2 then tDiR X.1 X.2.2 (v 0) (v 1) else if w = 3 then tWaR X.1 (v 0) (v 1) else if w = 4 then tMoR X.1 (v 0) else tTrR X.1 (v 0) (v 1) (v 2) (v 3) (v 4) (v 5)
def tIX (w : Nat) (v : Nat → Int32) (X : St3) : St3 := if w = 0 then ((tCo (v 0) X.1 X.2.2).1, X.2.1, (tCo (v 0) X.1 X.2.2).2) else if w = 1 then ((tCe X.1 X.2.2 (v 0) (v 1) (v 2) (v 3)).1, X.2.1, (tCe X.1 X.2.2 (v 0) (v 1) (v 2) (v 3)).2) else if w = 2 then (X.1, X.2.1, tDi X.1 X.2.2 (v 0) (v 1)) else if w = 3 then (tWa X.1 (v 0) (v 1), X.2.1, X.2.2) else if w = 4 then (tMo X.1 (v 0), X.2.1, X.2.2) else ((tTr X.1 X.2.1 (v 0) (v 1) (v 2) (v 3) (v 4) (v 5)).1, (tTr X.1 X.2.1 (v 0) (v 1) (v 2) (v 3) (v 4) (v 5)).2, X.2.2)
def tIs (S : PS) (X : St3) : Nat → St3
  | 0 => X
  | i + 1 => tIX (S.2.2.2.1 i) (S.2.2.2.2 i) (tIs S X i)
def refP (S : PS) (X : St3) (j : Nat) : Bool := decide (tIR (S.2.2.2.1 j) (S.2.2.2.2 j) (tIs S X j) < 0)
def rdV (S : PS) (X : St3) : Int32 := if firstN (refP S X) S.2.2.1 < S.2.2.1 then -1000 - nI (firstN (refP S X) S.2.2.1) else nI S.2.2.1
theorem moq {M : MoV} {f : Nat → Int32} {i : Nat} (h : M.1 = true) : moRef M f i = f := by unfold moRef; rw [if_pos h, add_zero', upd_self rfl]
theorem moVq {M : MoV} {f : Nat → Int32} {ok : Bool} (h : M.1 = true) : moV M f ok = f := by unfold moV; split; rfl; exact moq h
theorem trFq {M : MoV} {f : Nat → Int32} {C : CoV} {ok : Bool} (h : M.1 = true) : trF M f C ok = f := by
  unfold trF
  split
  · split
    · rfl
    · exact moq h
  · exact moq h
theorem nn_i {r : Int32} {c : Prop} [Decidable c] {k : Nat} (hk : k < 2 ^ 31) (e : r = if c then nI k else -2) : (¬ r < 0) ↔ c := by
  by_cases h : c
  · rw [e, if_pos h]; exact ⟨fun _ => h, fun _ => nI_pos hk⟩
  · rw [e, if_neg h]; exact ⟨fun q => absurd (by decide) q, fun q => absurd q h⟩
section TIT
variable {C : CoV} {tr : Nat → TrV} {Y : YrV} {n k a w c f t q : Int32}
theorem sg_co (h : IA C tr Y) : (¬ tCoR n C < 0) ↔ wi n 1 8 = true := nn_i (k := C.1) (by have := inv_n h.1; omega) rfl
theorem sg_ce (h : IA C tr Y) : (¬ tCeR C a n w t < 0) ↔ okCell C a n w t = true := by
  by_cases ok : okCell C a n w t = true
  · have c := ok
    unfold okCell at c
    rw [Bool.and_eq_true, Bool.and_eq_true, Bool.and_eq_true] at c
    obtain ⟨ja, hja, rfl⟩ := cell_nat c.1.1.1 (inv_n h.1)
    have hn := inv_n h.1
    obtain ⟨j, hj, hb⟩ := h.2.2.2.2.1.1 ja (by omega)
    refine nn_i (k := j) (by omega) ?_
    unfold tCeR
    rw [if_pos ok, if_pos ok, nI_clamp (by omega)]; exact hj
  · exact ⟨fun z => absurd (by unfold tCeR; rw [if_neg ok]; decide) z, fun z => absurd z ok⟩
theorem sg_di (h : IA C tr Y) : (¬ tDiR C Y a n < 0) ↔ okDike C a n = true := by
  by_cases ok : okDike C a n = true
  · have c := ok
    unfold okDike at c
    rw [Bool.and_eq_true] at c
    obtain ⟨ja, hja, rfl⟩ := cell_nat c.1 (inv_n h.1)
    have hn := inv_n h.1
    obtain ⟨j, hj, hb⟩ := h.2.2.2.2.1.2.2 ja (by omega)
    refine nn_i (k := j) (by omega) ?_
    unfold tDiR
    rw [if_pos ok, if_pos ok, nI_clamp (by omega)]; exact hj
  · exact ⟨fun z => absurd (by unfold tDiR; rw [if_neg ok]; decide) z, fun z => absurd z ok⟩
theorem sg_wa (h : IA C tr Y) : (¬ tWaR C a n < 0) ↔ okWant a n = true := by
  by_cases ok : okWant a n = true
  · have c := ok
    unfold okWant at c
    rw [Bool.and_eq_true] at c
    obtain ⟨ja, hja, rfl⟩ := wi_nat 0 7 c.1 rfl rfl (by decide)
    obtain ⟨j, hj, hb⟩ := h.2.2.2.2.1.2.1 ja (by omega)
    refine nn_i (k := j) (by omega) ?_
    unfold tWaR
    rw [if_pos ok, if_pos ok, nI_clamp (by omega)]; exact hj
  · exact ⟨fun z => absurd (by unfold tWaR; rw [if_neg ok]; decide) z, fun z => absurd z ok⟩
theorem sg_mo (h : IA C tr Y) : (¬ tMoR C n < 0) ↔ wi n 1 9 = true := by
  obtain ⟨j, hj, h1, h2⟩ := h.1.2.1
  refine nn_i (k := j) (by omega) ?_
  unfold tMoR
  rw [show coMoon C = nI j from hj]
theorem sg_be (h : IA C tr Y) : (¬ beR Y n < 0) ↔ wi n 0 999 = true := by
  obtain ⟨j, hj, h1⟩ := h.2.2.1.1
  refine nn_i (k := j) (by omega) ?_
  unfold beR
  rw [hj]
theorem sg_tr (h : IA C tr Y) : (¬ tTrR C k a c f t q < 0) ↔ (okTr C k a c f t q = true ∧ C.2.2.2.2.2.2.1 < 6) := by
  by_cases ok : okTr C k a c f t q = true
  · by_cases h6 : C.2.2.2.2.2.2.1 < 6
    · have e : tTrR C k a c f t q = nI C.2.2.2.2.2.2.1 := (if_pos ok).trans (if_pos h6)
      exact ⟨fun _ => ⟨ok, h6⟩, fun _ => by rw [e]; exact nI_pos (by omega)⟩
    · have e : tTrR C k a c f t q = -4 := (if_pos ok).trans (if_neg h6)
      exact ⟨fun z => absurd (by rw [e]; decide) z, fun z => absurd z.2 h6⟩
  · have e : tTrR C k a c f t q = -2 := if_neg ok
    exact ⟨fun z => absurd (by rw [e]; decide) z, fun z => absurd z.1 ok⟩
theorem ia_tI {v : Nat → Int32} {w : Nat} {X : St3} (h : IA X.1 X.2.1 X.2.2) : IA (tIX w v X).1 (tIX w v X).2.1 (tIX w v X).2.2 := by
  unfold tIX
  split
  · exact ia_coast h
  · split
    · exact ia_cell h
    · split
      · exact ia_dike h
      · split
        · exact ia_want h
        · split
          · exact ia_moon h
          · exact ia_treaty h
theorem ia_tIs {S : PS} {X : St3} (h : IA X.1 X.2.1 X.2.2) : ∀ {i : Nat}, IA (tIs S X i).1 (tIs S X i).2.1 (tIs S X i).2.2
  | 0 => h
  | i + 1 => ia_tI (ia_tIs h (i := i))
/-- what a told item leaves -/
def tmP (f : Nat → Int32) (P : Nat → YrV) (w : Nat) (v : Nat → Int32) (X : St3) (r : Int32) (u : (Nat → Int32) × (Nat → Int32)) : Prop := r = bI (!decide (tIR w v X < 0)) ∧ (¬ tIR w v X < 0 → Rel u.1 (tIX w v X).1 (tIX w v X).2.1 (tIX w v X).2.2 0 P) ∧ u.2 = f
theorem tm_g {f : Nat → Int32} {P : Nat → YrV} {w : Nat} {v : Nat → Int32} {X Z : St3} {r1 r R : Int32} {u : (Nat → Int32) × (Nat → Int32)} {ok : Prop} {pc' : Nat} (e1 : r1 = R) (eR : tIR w v X = R) (eX : tIX w v X = Z) (hs : (¬ R < 0) ↔ ok) (hp : ok → pc' = 0) (hrel : Rel u.1 Z.1 Z.2.1 Z.2.2 pc' P) (hf : u.2 = f) (hr : (r1 < 0 ∧ r = nI 0) ∨ (¬ r1 < 0 ∧ r = nI 1)) : tmP f P w v X r u := by
  refine ⟨?_, fun z => ?_, hf⟩
  · rw [eR, ← e1]
    rcases hr with ⟨h1, h2⟩ | ⟨h1, h2⟩
    · rw [h2, decide_eq_true h1]; rfl
    · rw [h2, decide_eq_false h1]; rfl
  · rw [eX]
    rw [eR] at z
    rw [hp (hs.mp z)] at hrel
    exact hrel
theorem okP_t {ok : Bool} {pc : Nat} (h : ok = true) : okP ok pc = 0 := if_pos h
end TIT
