/-! the two sides' refusal counts and past counts meet -/
def FV (f : Nat → Int32) (V : V3) : Prop := f 0 = V.1 ∧ f 1 = V.2.1 ∧ f 2 = V.2.2
section MET
variable {M : MoV} {f : Nat → Int32} {V : V3} {r : Int32} {ok : Bool} {pc : Nat} {C : CoV} {tr : Nat → TrV} {Y : YrV}
theorem fv_0 (hF : FV f V) (hM : M.1 = false) : FV (moRef M f 0) (ttRef V (-2)) := by
  unfold moRef
  rw [hM, ttRef_b]
  exact ⟨by rw [pk_us, hF.1]; rfl, by rw [pk_un (by decide)]; exact hF.2.1, by rw [pk_un (by decide)]; exact hF.2.2⟩
theorem ttRef_3 (V : V3) : ttRef V (-3) = (V.1, V.2.1 + 1, V.2.2) := by unfold ttRef; rw [if_neg (by decide), if_pos rfl]
theorem ttRef_4 (V : V3) : ttRef V (-4) = (V.1, V.2.1, V.2.2 + 1) := by unfold ttRef; rw [if_neg (by decide), if_neg (by decide)]
theorem fv_1 (hF : FV f V) (hM : M.1 = false) : FV (moRef M f 1) (ttRef V (-3)) := by
  unfold moRef
  rw [hM, ttRef_3]
  exact ⟨by rw [pk_un (by decide)]; exact hF.1, by rw [pk_us, hF.2.1]; rfl, by rw [pk_un (by decide)]; exact hF.2.2⟩
theorem fv_2 (hF : FV f V) (hM : M.1 = false) : FV (moRef M f 2) (ttRef V (-4)) := by
  unfold moRef
  rw [hM, ttRef_4]
  exact ⟨by rw [pk_un (by decide)]; exact hF.1, by rw [pk_un (by decide)]; exact hF.2.1, by rw [pk_us, hF.2.2]; rfl⟩
theorem toldV_n (h : r < 0) : toldV V r = ttRef V r := if_pos h
theorem toldV_p (h : ¬ r < 0) : toldV V r = V := if_neg h
/-- a teller that refuses only by -2 -/
theorem fv_mo (hF : FV f V) (hM : M.1 = false) (h : (¬ r < 0) ↔ ok = true) (h2 : ok = false → r = -2) : FV (moV M f ok) (toldV V r) := by
  cases ok with
  | true => rw [toldV_p (h.mpr rfl)]; exact hF
  | false => rw [h2 rfl]; exact fv_0 hF hM
theorem pp_ok (h : (¬ r < 0) ↔ ok = true) : okP ok pc = toldP r pc := by
  unfold okP toldP
  by_cases hr : r < 0
  · rw [if_pos hr, if_neg (fun e => h.mpr e hr)]
  · rw [if_neg hr, if_pos (h.mp hr)]
/-- a question that refuses by -2 -/
theorem fv_st (hF : FV f V) (hM : M.1 = false) : FV (moV M f ok) (stV V ok) := by
  cases ok with
  | true => exact hF
  | false =>
    have e := fv_0 hF hM
    rw [ttRef_b] at e
    exact e
theorem sg_bu (h : IA C tr Y) {w : Int32} : (¬ buR C w < 0) ↔ wi w 0 1 = true := by
  unfold buR
  by_cases hw1 : wi w 0 1 = true
  · rw [if_pos hw1]
    refine ⟨fun _ => hw1, fun _ => ?_⟩
    split
    · exact nI_pos (by have := inv_tc h.1; unfold coTc; omega)
    · exact nI_pos (by have := inv_dc h.1; unfold coDc; omega)
  · rw [if_neg hw1]; exact ⟨fun q => absurd (by decide) q, fun q => absurd q hw1⟩
theorem sg_en {a : Int32} : (¬ enR C tr Y a < 0) ↔ enOk C tr Y a = true := by
  unfold enR enOk
  cases stTreaty C a <;> cases trRuns (tr a.toNatClampNeg) Y.1 <;> simp <;> decide
theorem fv_en (hF : FV f V) (hM : M.1 = false) {a : Int32} : FV (enF M f C tr Y a) (toldV V (enR C tr Y a)) := by
  unfold enF enR
  by_cases h1 : stTreaty C a = true
  · rw [if_pos h1, if_pos h1]
    by_cases h2 : trRuns (tr a.toNatClampNeg) Y.1 = true
    · rw [if_pos h2, if_pos h2, toldV_p (by decide)]; exact hF
    · rw [if_neg h2, if_neg h2, toldV_n (by decide)]; exact fv_1 hF hM
  · rw [if_neg h1, if_neg h1, toldV_n (by decide)]; exact fv_0 hF hM
theorem ti_ok {k a : Int32} : (wi k 0 7 = true ∧ stCell C a = true) ↔ tiOk C k a = true := by unfold tiOk; rw [Bool.and_eq_true]
theorem fv_ti (hF : FV f V) (hM : M.1 = false) {k a : Int32} : FV (tiF M f C k a) (toldV V (tiR C k a)) := by
  unfold tiF tiR
  by_cases h1 : tiOk C k a = true
  · rw [if_pos h1, if_pos (ti_ok.mpr h1)]
    unfold coTideR
    by_cases h2 : C.2.2.2.2.2.2.2.1 < 6
    · rw [if_pos h2, if_pos (show coDc C < 6 from h2), toldV_p (nI_pos (show coDc C + 1 < 2 ^ 31 from by have : coDc C < 6 := h2; omega))]; exact hF
    · rw [if_neg h2, if_neg (show ¬ coDc C < 6 from h2), toldV_n (by decide)]; exact fv_2 hF hM
  · rw [if_neg h1, if_neg (fun e => h1 (ti_ok.mp e)), toldV_n (by decide)]; exact fv_0 hF hM
theorem pp_ti {k a : Int32} : tiP C k a pc = toldP (tiR C k a) pc := by
  unfold tiP tiR toldP
  by_cases h1 : tiOk C k a = true
  · rw [if_pos (ti_ok.mpr h1)]
    unfold coTideR
    by_cases h2 : C.2.2.2.2.2.2.2.1 < 6
    · rw [if_pos ⟨h1, h2⟩, if_pos (show coDc C < 6 from h2), if_neg (nI_pos (show coDc C + 1 < 2 ^ 31 from by have : coDc C < 6 := h2; omega))]
    · rw [if_neg (fun e => h2 e.2), if_neg (show ¬ coDc C < 6 from h2), if_pos (by decide)]
  · rw [if_neg (fun e => h1 (ti_ok.mp e)), if_neg (fun e => h1 e.1), if_pos (by decide)]
theorem fv_tr (hF : FV f V) (hM : M.1 = false) {k a c f1 u1 q : Int32} : FV (trF M f C (okTr C k a c f1 u1 q)) (toldV V (tTrR C k a c f1 u1 q)) := by
  by_cases ok : okTr C k a c f1 u1 q = true
  · by_cases h6 : C.2.2.2.2.2.2.1 < 6
    · have e : tTrR C k a c f1 u1 q = nI C.2.2.2.2.2.2.1 := (if_pos ok).trans (if_pos h6)
      rw [e, toldV_p (nI_pos (by omega))]
      unfold trF
      rw [if_pos ok, if_pos h6]; exact hF
    · have e : tTrR C k a c f1 u1 q = -4 := (if_pos ok).trans (if_neg h6)
      rw [e, toldV_n (by decide)]
      unfold trF
      rw [if_pos ok, if_neg h6]; exact fv_2 hF hM
  · have e : tTrR C k a c f1 u1 q = -2 := if_neg ok
    rw [e, toldV_n (by decide)]
    unfold trF
    rw [if_neg ok]; exact fv_0 hF hM
theorem pp_tr (h : IA C tr Y) {k a c f1 u1 q : Int32} : trPc C (okTr C k a c f1 u1 q) pc = toldP (tTrR C k a c f1 u1 q) pc := by
  unfold trPc toldP
  by_cases hr : tTrR C k a c f1 u1 q < 0
  · rw [if_pos hr, if_neg (fun e => (sg_tr h).mpr e hr)]
  · rw [if_neg hr, if_pos ((sg_tr h).mp hr)]
theorem fv_ye (hF : FV f V) (hM : M.1 = false) {n : Int32} : FV (yeF M f Y n) (yeV V Y n) := by
  unfold yeF yeV
  split
  · split
    · exact hF
    · exact fv_1 hF hM
  · exact fv_0 hF hM
theorem fv_of (hF : FV f V) (hM : M.1 = false) {a c m w : Int32} : FV (offF M f C a c m w) (offW V C a c m w) := by
  unfold offF offW
  split
  · by_cases h6 : C.2.2.2.2.2.2.1 < 6
    · rw [if_pos h6, if_pos (show coTc C < 6 from h6)]; exact hF
    · rw [if_neg h6, if_neg (show ¬ coTc C < 6 from h6)]; exact fv_1 hF hM
  · exact fv_0 hF hM
theorem bu_y {w : Int32} : (if wi w 0 1 = true then buY Y w else Y) = buY Y w := by
  split
  · rfl
  · rename_i h
    unfold buY
    rw [if_neg (fun e => h (by rw [e]; decide))]
theorem fv_bu (h : IA C tr Y) (hF : FV f V) (hM : M.1 = false) {w : Int32} : FV (moV M f (wi w 0 1)) (toldV V (buR C w)) := fv_mo hF hM (sg_bu h) (fun e => if_neg (by rw [e]; decide))
theorem fv_co (h : IA C tr Y) (hF : FV f V) (hM : M.1 = false) {n : Int32} : FV (moV M f (wi n 1 8)) (toldV V (tCoR n C)) := fv_mo hF hM (sg_co h) (fun e => if_neg (by rw [e]; decide))
theorem fv_ce (h : IA C tr Y) (hF : FV f V) (hM : M.1 = false) {a n w t : Int32} : FV (moV M f (okCell C a n w t)) (toldV V (tCeR C a n w t)) := fv_mo hF hM (sg_ce h) (fun e => if_neg (by rw [e]; decide))
theorem fv_di (h : IA C tr Y) (hF : FV f V) (hM : M.1 = false) {a n : Int32} : FV (moV M f (okDike C a n)) (toldV V (tDiR C Y a n)) := fv_mo hF hM (sg_di h) (fun e => if_neg (by rw [e]; decide))
theorem fv_wa (h : IA C tr Y) (hF : FV f V) (hM : M.1 = false) {a n : Int32} : FV (moV M f (okWant a n)) (toldV V (tWaR C a n)) := fv_mo hF hM (sg_wa h) (fun e => if_neg (by rw [e]; decide))
theorem fv_mn (h : IA C tr Y) (hF : FV f V) (hM : M.1 = false) {n : Int32} : FV (moV M f (wi n 1 9)) (toldV V (tMoR C n)) := fv_mo hF hM (sg_mo h) (fun e => if_neg (by rw [e]; decide))
theorem fv_be (h : IA C tr Y) (hF : FV f V) (hM : M.1 = false) {n : Int32} : FV (moV M f (wi n 0 999)) (toldV V (beR Y n)) := fv_mo hF hM (sg_be h) (fun e => if_neg (by rw [e]; decide))
/-- the count of refusals as it is asked -/
theorem fv_su (hF : FV f V) {w : Int32} : suR V w = if wi w 0 2 = true then f w.toNatClampNeg else -1 := by
  unfold suR
  by_cases h0 : w = 0
  · subst h0; rw [if_pos rfl, if_pos (by decide)]; exact hF.1.symm
  · by_cases h1 : w = 1
    · subst h1; rw [if_neg h0, if_pos rfl, if_pos (by decide)]; exact hF.2.1.symm
    · by_cases h2 : w = 2
      · subst h2; rw [if_neg h0, if_neg h1, if_pos rfl, if_pos (by decide)]; exact hF.2.2.symm
      · rw [if_neg h0, if_neg h1, if_neg h2, if_neg]
        intro h
        obtain ⟨j, hj, rfl⟩ := wi_nat 0 2 h rfl rfl ⟨by decide, by omega⟩
        have : j = 0 ∨ j = 1 ∨ j = 2 := by omega
        rcases this with rfl | rfl | rfl
        · exact h0 rfl
        · exact h1 rfl
        · exact h2 rfl
theorem fv_sv (hF : FV f V) (hM : M.1 = false) {w : Int32} : FV (moV M f (wi w 0 2)) (suV V w) := by
  have e : suV V w = stV V (wi w 0 2) := by
    unfold suV stV
    by_cases h : w = 0 ∨ w = 1 ∨ w = 2
    · rw [if_pos h, if_pos (by rcases h with rfl | rfl | rfl <;> decide)]
    · rw [if_neg h, if_neg]
      intro h9
      obtain ⟨j, hj, rfl⟩ := wi_nat 0 2 h9 rfl rfl ⟨by decide, by omega⟩
      have : j = 0 ∨ j = 1 ∨ j = 2 := by omega
      rcases this with rfl | rfl | rfl
      · exact h (Or.inl rfl)
      · exact h (Or.inr (Or.inl rfl))
      · exact h (Or.inr (Or.inr rfl))
  rw [e]
  exact fv_st hF hM
end MET
