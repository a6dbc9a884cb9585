def okP (ok : Bool) (pc : Nat) : Nat := if ok = true then 0 else pc
section MH
variable {b : Nat → Int32} {C : CoV} {tr : Nat → TrV} {Y : YrV} {pc : Nat} {P : Nat → YrV} {M : MoV} {f : Nat → Int32} {n k : Int32} {j : Nat}
theorem bell_ok (hr : Rel b C tr Y pc P) (htc : C.2.2.2.2.2.2.1 ≤ 6) (hdc : C.2.2.2.2.2.2.2.1 ≤ 6) (c : wi n 0 999 = true) : b 2 = beR Y n ∧ Rel (upd (upd b 2 n) 6 (nI 0)) C tr (beY Y n) (okP (wi n 0 999) pc) P ∧ f = moV M f (wi n 0 999) := by
  unfold beR beY okP moV
  rw [if_pos c, if_pos c, if_pos c, if_pos c]
  exact ⟨hr.be, Rel_np0 (Rel_bells hr htc hdc) htc hdc, rfl⟩
theorem bell_no (hr : Rel b C tr Y pc P) (c : wi n 0 999 = false) : -2 = beR Y n ∧ Rel b C tr (beY Y n) (okP (wi n 0 999) pc) P ∧ moRef M f 0 = moV M f (wi n 0 999) := by
  unfold beR beY okP moV
  rw [c]
  exact ⟨rfl, hr, rfl⟩
theorem moon_ok (hr : Rel b C tr Y pc P) (htc : C.2.2.2.2.2.2.1 ≤ 6) (hdc : C.2.2.2.2.2.2.2.1 ≤ 6) (c : wi n 1 9 = true) : b 3 = tMoR C n ∧ Rel (upd (upd b 3 n) 6 (nI 0)) (tMo C n) tr Y (okP (wi n 1 9) pc) P ∧ f = moV M f (wi n 1 9) := by
  unfold tMoR tMo okP moV
  rw [if_pos c, if_pos c, if_pos c, if_pos c]
  exact ⟨hr.mo, Rel_np0 (Rel_mo hr htc hdc) htc hdc, rfl⟩
theorem moon_no (hr : Rel b C tr Y pc P) (c : wi n 1 9 = false) : -2 = tMoR C n ∧ Rel b (tMo C n) tr Y (okP (wi n 1 9) pc) P ∧ moRef M f 0 = moV M f (wi n 1 9) := by
  unfold tMoR tMo okP moV
  rw [c]
  exact ⟨rfl, hr, rfl⟩
theorem want_ok (hr : Rel b C tr Y pc P) (htc : C.2.2.2.2.2.2.1 ≤ 6) (hdc : C.2.2.2.2.2.2.2.1 ≤ 6) (hj : j < 8) (c0 : wi (nI j) 0 7 = true) (c1 : wi n 0 15 = true) : b (7 + j) = tWaR C (nI j) n ∧ Rel (upd (upd b (7 + j) n) 6 (nI 0)) (tWa C (nI j) n) tr Y (okP (okWant (nI j) n) pc) P ∧ f = moV M f (okWant (nI j) n) := by
  have c : okWant (nI j) n = true := by unfold okWant; rw [c0, c1]; rfl
  unfold tWaR tWa okP moV
  rw [if_pos c, if_pos c, if_pos c, if_pos c, nI_clamp (by omega)]
  exact ⟨hr.wn hj, Rel_np0 (Rel_wn hr htc hdc hj) htc hdc, rfl⟩
theorem want_no (hr : Rel b C tr Y pc P) (c : wi k 0 7 = false ∨ wi n 0 15 = false) : -2 = tWaR C k n ∧ Rel b (tWa C k n) tr Y (okP (okWant k n) pc) P ∧ moRef M f 0 = moV M f (okWant k n) := by
  have c : okWant k n = false := by unfold okWant; rcases c with c | c <;> rw [c] <;> simp
  unfold tWaR tWa okP moV
  rw [c]
  exact ⟨rfl, hr, rfl⟩
theorem dike_ok (hr : Rel b C tr Y pc P) (htc : C.2.2.2.2.2.2.1 ≤ 6) (hdc : C.2.2.2.2.2.2.2.1 ≤ 6) (hj : j < 8) (c0 : stCell C (nI j) = true) (c1 : wi n 0 9 = true) : b (15 + 5 * j + 3) = tDiR C Y (nI j) n ∧ Rel (upd (upd b (15 + 5 * j + 3) n) 6 (nI 0)) C tr (tDi C Y (nI j) n) (okP (okDike C (nI j) n) pc) P ∧ f = moV M f (okDike C (nI j) n) := by
  have c : okDike C (nI j) n = true := by unfold okDike; rw [c0, c1]; rfl
  unfold tDiR tDi okP moV
  rw [if_pos c, if_pos c, if_pos c, if_pos c, nI_clamp (by omega)]
  exact ⟨hr.c3 hj, Rel_np0 (Rel_dike hr htc hdc hj) htc hdc, rfl⟩
theorem dike_no (hr : Rel b C tr Y pc P) (c : stCell C k = false ∨ wi n 0 9 = false) : -2 = tDiR C Y k n ∧ Rel b C tr (tDi C Y k n) (okP (okDike C k n) pc) P ∧ moRef M f 0 = moV M f (okDike C k n) := by
  have c : okDike C k n = false := by unfold okDike; rcases c with c | c <;> rw [c] <;> simp
  unfold tDiR tDi okP moV
  rw [c]
  exact ⟨rfl, hr, rfl⟩
end MH
section MI
variable {b : Nat → Int32} {C : CoV} {tr : Nat → TrV} {Y : YrV} {pc : Nat} {P : Nat → YrV} {M : MoV} {f : Nat → Int32} {a h w q : Int32} {j : Nat}
theorem cell_ok (hr : Rel b C tr Y pc P) (htc : C.2.2.2.2.2.2.1 ≤ 6) (hdc : C.2.2.2.2.2.2.2.1 ≤ 6) (hj : j < 8) (c0 : stCell C (nI j) = true) (c1 : wi h 0 9 = true) (c2 : wi w 0 99 = true) (c3 : wi q 0 2 = true) :
    (upd (upd (upd b (15 + 5 * j + 1) w) (15 + 5 * j + 2) q) (15 + 5 * j + 4) (nI 0)) (15 + 5 * j + 0) = tCeR C (nI j) h w q ∧ Rel (upd (upd (upd (upd (upd b (15 + 5 * j + 1) w) (15 + 5 * j + 2) q) (15 + 5 * j + 4) (nI 0)) (15 + 5 * j + 0) h) 6 (nI 0)) (tCe C Y (nI j) h w q).1 tr (tCe C Y (nI j) h w q).2 (okP (okCell C (nI j) h w q) pc) P ∧ f = moV M f (okCell C (nI j) h w q) := by
  have c : okCell C (nI j) h w q = true := by unfold okCell; rw [c0, c1, c2, c3]; rfl
  unfold tCeR tCe okP moV
  rw [if_pos c, if_pos c, if_pos c, if_pos c, nI_clamp (by omega)]
  have r1 := Rel_wo (v := w) hr htc hdc hj
  have r2 := Rel_tn (v := q) r1 htc hdc hj
  have r3 := Rel_fl (v := nI 0) r2 htc hdc hj
  exact ⟨r3.c0 hj, Rel_np0 (Rel_ht r3 htc hdc hj) htc hdc, rfl⟩
theorem cell_no (hr : Rel b C tr Y pc P) (c : okCell C a h w q = false) : -2 = tCeR C a h w q ∧ Rel b (tCe C Y a h w q).1 tr (tCe C Y a h w q).2 (okP (okCell C a h w q) pc) P ∧ moRef M f 0 = moV M f (okCell C a h w q) := by
  unfold tCeR tCe okP moV
  rw [c]
  exact ⟨rfl, hr, rfl⟩
theorem okc_1 (c : stCell C a = false) : okCell C a h w q = false := by unfold okCell; rw [c]; simp
theorem okc_2 (c : wi h 0 9 = false) : okCell C a h w q = false := by unfold okCell; rw [c]; simp
theorem okc_3 (c : wi w 0 99 = false) : okCell C a h w q = false := by unfold okCell; rw [c]; simp
theorem okc_4 (c : wi q 0 2 = false) : okCell C a h w q = false := by unfold okCell; rw [c]; simp
def enOk (C : CoV) (tr : Nat → TrV) (Y : YrV) (a : Int32) : Bool := stTreaty C a && trRuns (tr a.toNatClampNeg) Y.1
def enF (M : MoV) (f : Nat → Int32) (C : CoV) (tr : Nat → TrV) (Y : YrV) (a : Int32) : Nat → Int32 := if stTreaty C a = true then (if trRuns (tr a.toNatClampNeg) Y.1 = true then f else moRef M f 1) else moRef M f 0
theorem end_bad (hr : Rel b C tr Y pc P) (c : stTreaty C a = false) : -2 = enR C tr Y a ∧ Rel b C (enT C tr Y a) Y (okP (enOk C tr Y a) pc) P ∧ moRef M f 0 = enF M f C tr Y a := by
  unfold enR enT okP enOk enF
  rw [c]
  exact ⟨rfl, by rw [if_neg (fun h => Bool.false_ne_true h.1)]; exact hr, rfl⟩
theorem end_no (hr : Rel b C tr Y pc P) (hj : j < 6) (c : stTreaty C (nI j) = true) (c2 : trRuns (tr j) Y.1 = false) : -3 = enR C tr Y (nI j) ∧ Rel b C (enT C tr Y (nI j)) Y (okP (enOk C tr Y (nI j)) pc) P ∧ moRef M f 1 = enF M f C tr Y (nI j) := by
  unfold enR enT okP enOk enF
  rw [c, nI_clamp (by omega), c2]
  exact ⟨rfl, by rw [if_neg (fun h => Bool.false_ne_true h.2)]; exact hr, rfl⟩
theorem end_ok (hr : Rel b C tr Y pc P) (htc : C.2.2.2.2.2.2.1 ≤ 6) (hdc : C.2.2.2.2.2.2.2.1 ≤ 6) (hj : j < C.2.2.2.2.2.2.1) (c : stTreaty C (nI j) = true) (c2 : trRuns (tr j) Y.1 = true) : nI 1 = enR C tr Y (nI j) ∧ Rel (upd (upd b (55 + 7 * j + 4) Y.1) 6 (nI 0)) C (enT C tr Y (nI j)) Y (okP (enOk C tr Y (nI j)) pc) P ∧ f = enF M f C tr Y (nI j) := by
  unfold enR enT okP enOk enF
  rw [c, nI_clamp (by omega), c2]
  exact ⟨rfl, by rw [if_pos ⟨rfl, rfl⟩]; exact Rel_np0 (Rel_till hr htc hdc hj) htc hdc, rfl⟩
theorem runs_f1 {T : TrV} {z : Int32} (h : T.2.2.2.2.2.1 ≤ z) : trRuns T z = false := by
  unfold trRuns
  have : ¬ z < tTill T := Int32.not_lt.mpr h
  simp [this]
theorem runs_f2 {T : TrV} {z : Int32} (h : ¬ T.2.2.2.2.1 ≤ z) : trRuns T z = false := by
  unfold trRuns
  have h2 : ¬ tFirst T ≤ z := h
  simp [h2]
theorem runs_t {T : TrV} {z : Int32} (h : ¬ T.2.2.2.2.2.1 ≤ z) (h2 : T.2.2.2.2.1 ≤ z) : trRuns T z = true := by
  unfold trRuns
  have h3 : z < tTill T := Int32.not_le.mp h
  have h4 : tFirst T ≤ z := h2
  simp [h3, h4]
end MI
section MJ
variable {b : Nat → Int32} {C : CoV} {tr : Nat → TrV} {Y : YrV} {pc : Nat} {P : Nat → YrV} {M : MoV} {f : Nat → Int32} {w : Int32}
theorem burn_0 (hr : Rel b C tr Y pc P) (htc : C.2.2.2.2.2.2.1 ≤ 6) (hdc : C.2.2.2.2.2.2.2.1 ≤ 6) (c : wi w 0 1 = true) (c2 : w = 0) : b 4 = buR C w ∧ Rel (upd (upd b 4 (nI 0)) 6 (nI 0)) (buC C w) tr (buY Y w) (okP (wi w 0 1) pc) P ∧ f = moV M f (wi w 0 1) := by
  unfold buR buC buY okP moV
  rw [if_pos c, if_pos c, if_pos c, if_pos c, if_pos c2, if_pos c2, if_pos c2]
  exact ⟨hr.tc, Rel_np0 (Rel_tc0 hr htc hdc) (Nat.zero_le _) hdc, rfl⟩
theorem burn_1 (hr : Rel b C tr Y pc P) (htc : C.2.2.2.2.2.2.1 ≤ 6) (hdc : C.2.2.2.2.2.2.2.1 ≤ 6) (c : wi w 0 1 = true) (c2 : ¬ w = 0) : b 5 = buR C w ∧ Rel (upd (upd b 5 (nI 0)) 6 (nI 0)) (buC C w) tr (buY Y w) (okP (wi w 0 1) pc) P ∧ f = moV M f (wi w 0 1) := by
  unfold buR buC buY okP moV
  rw [if_pos c, if_pos c, if_pos c, if_pos c, if_neg c2, if_neg c2, if_neg c2]
  exact ⟨hr.dc, Rel_np0 (Rel_dc0 hr htc hdc) htc (Nat.zero_le _), rfl⟩
theorem burn_no (hr : Rel b C tr Y pc P) (c : wi w 0 1 = false) : -2 = buR C w ∧ Rel b (buC C w) tr (buY Y w) (okP (wi w 0 1) pc) P ∧ moRef M f 0 = moV M f (wi w 0 1) := by
  have c2 : ¬ w = 0 := by intro e; rw [e] at c; exact absurd c (by decide)
  unfold buR buC buY okP moV
  rw [c, if_neg c2, if_neg c2, if_neg c2]
  exact ⟨rfl, hr, rfl⟩
end MJ
section MK
variable {b : Nat → Int32} {C : CoV} {tr : Nat → TrV} {Y : YrV} {pc : Nat} {P : Nat → YrV} {M : MoV} {f : Nat → Int32} {k a : Int32} {w : Bool}
def tiOk (C : CoV) (k a : Int32) : Bool := wi k 0 7 && stCell C a
def tiF (M : MoV) (f : Nat → Int32) (C : CoV) (k a : Int32) : Nat → Int32 := if tiOk C k a = true then (if C.2.2.2.2.2.2.2.1 < 6 then f else moRef M f 2) else moRef M f 0
def tiP (C : CoV) (k a : Int32) (pc : Nat) : Nat := if tiOk C k a = true ∧ C.2.2.2.2.2.2.2.1 < 6 then 0 else pc
theorem tide_bad (hr : Rel b C tr Y pc P) (c : wi k 0 7 = false ∨ stCell C a = false) : -2 = tiR C k a ∧ Rel b (tiC C k a w) tr Y (tiP C k a pc) P ∧ moRef M f 0 = tiF M f C k a := by
  have c1 : ¬ (wi k 0 7 = true ∧ stCell C a = true) := by intro e; rcases c with c | c <;> simp [c] at e
  have c2 : tiOk C k a = false := by unfold tiOk; rcases c with c | c <;> rw [c] <;> simp
  unfold tiR tiC tiP tiF
  rw [if_neg c1, if_neg c1, c2]
  exact ⟨rfl, by rw [if_neg (fun h => Bool.false_ne_true h.1)]; exact hr, rfl⟩
theorem tide_full (hr : Rel b C tr Y pc P) (c : wi k 0 7 = true) (c0 : stCell C a = true) (h6 : ¬ C.2.2.2.2.2.2.2.1 < 6) : -4 = tiR C k a ∧ Rel b (tiC C k a w) tr Y (tiP C k a pc) P ∧ moRef M f 2 = tiF M f C k a := by
  have c2 : tiOk C k a = true := by unfold tiOk; rw [c, c0]; rfl
  have cc : wi k 0 7 = true ∧ stCell C a = true := ⟨c, c0⟩
  have e1 : tiR C k a = -4 := (if_pos cc).trans (if_neg h6)
  have e2 : tiC C k a w = C := (if_pos cc).trans (if_neg h6)
  have e3 : tiP C k a pc = pc := if_neg (fun h => h6 h.2)
  have e4 : tiF M f C k a = moRef M f 2 := (if_pos c2).trans (if_neg h6)
  rw [e1, e2, e3, e4]
  exact ⟨rfl, hr, rfl⟩
theorem tide_ok (hr : Rel b C tr Y pc P) (htc : C.2.2.2.2.2.2.1 ≤ 6) (h6 : C.2.2.2.2.2.2.2.1 < 6) (c : wi k 0 7 = true) (c0 : stCell C a = true) {z : Int32} (hz : z = bI w) {r : Int32} (hrr : r = nI (C.2.2.2.2.2.2.2.1 + 1)) : r = tiR C k a ∧ Rel (upd (upd (upd (upd (upd b (97 + 3 * C.2.2.2.2.2.2.2.1) k) (97 + 3 * C.2.2.2.2.2.2.2.1 + 1) a) (97 + 3 * C.2.2.2.2.2.2.2.1 + 2) z) 5 (nI (C.2.2.2.2.2.2.2.1 + 1))) 6 (nI 0)) (tiC C k a w) tr Y (tiP C k a pc) P ∧ f = tiF M f C k a := by
  have c2 : tiOk C k a = true := by unfold tiOk; rw [c, c0]; rfl
  subst hz
  have hdc : C.2.2.2.2.2.2.2.1 ≤ 6 := by omega
  have r1 := Rel_dO (j0 := C.2.2.2.2.2.2.2.1) (w0 := 0) (v := k) hr htc hdc (by omega)
  have r2 := Rel_dO (j0 := C.2.2.2.2.2.2.2.1) (w0 := 1) (v := a) r1 htc hdc (by omega)
  have r3 := Rel_dO (j0 := C.2.2.2.2.2.2.2.1) (w0 := 2) (v := bI w) r2 htc hdc (by omega)
  have r4 := Rel_dc1 (a := k) (d := a) (z := bI w) r3 htc hdc h6 ((pk_un (by omega)).trans ((pk_un (by omega)).trans pk_us)) ((pk_un (by omega)).trans pk_us) pk_us
  have r5 := Rel_np0 r4 htc (show C.2.2.2.2.2.2.2.1 + 1 ≤ 6 by omega)
  have cc : wi k 0 7 = true ∧ stCell C a = true := ⟨c, c0⟩
  have e1 : tiR C k a = nI (C.2.2.2.2.2.2.2.1 + 1) := (if_pos cc).trans (if_pos h6)
  have e2 : coTide C k a w = _ := if_pos h6
  have e2' : tiC C k a w = coTide C k a w := if_pos cc
  have e3 : tiP C k a pc = 0 := if_pos ⟨c2, h6⟩
  have e4 : tiF M f C k a = f := (if_pos c2).trans (if_pos h6)
  rw [e1, e2', e2, e3, e4]
  exact ⟨hrr, r5, rfl⟩
end MK
