def addB (b : Nat → Int32) (t : Nat) (k a c f u p : Int32) : Nat → Int32 := upd (upd (upd (upd (upd (upd (upd (upd b (55 + 7 * t + 0) k) (55 + 7 * t + 0 + 1) a) (55 + 7 * t + 0 + 2) c) (55 + 7 * t + 0 + 3) f) (55 + 7 * t + 0 + 4) u) (55 + 7 * t + 0 + 5) p) (55 + 7 * t + 0 + 6) (nI 0)) 4 (nI (t + 1))
theorem upd_sw {b : Nat → Int32} {i j : Nat} {v w : Int32} (h : i ≠ j) : upd (upd b i v) j w = upd (upd b j w) i v := funext fun k => by
  by_cases e : k = i
  · subst e; rw [pk_un h, pk_us, pk_us]
  · by_cases e2 : k = j
    · subst e2; rw [pk_us, pk_un e, pk_us]
    · rw [pk_un e2, pk_un e, pk_un e, pk_un e2]
theorem Rel_add {b : Nat → Int32} {C : CoV} {tr : Nat → TrV} {Y : YrV} {pc kd : Nat} {P : Nat → YrV} {a c f u p : Int32} (hr : Rel b C tr Y pc P) (hdc : C.2.2.2.2.2.2.2.1 ≤ 6) (h6 : C.2.2.2.2.2.2.1 < 6) (hb : yrBr Y C.2.2.2.2.2.2.1 = false) : Rel (upd (addB b C.2.2.2.2.2.2.1 (nI kd) a c f u p) 6 (nI 0)) (coAdd C tr kd a c f u p).1 (coAdd C tr kd a c f u p).2 Y 0 P := by
  have htc : C.2.2.2.2.2.2.1 ≤ 6 := by omega
  have e2 : coAdd C tr kd a c f u p = _ := if_pos h6
  rw [e2]
  unfold addB
  rw [upd_sw (by decide)]
  have r0 := Rel_tO (j0 := C.2.2.2.2.2.2.1) (w0 := 0) (v := nI kd) hr htc hdc (by omega)
  have r1 := Rel_tO (j0 := C.2.2.2.2.2.2.1) (w0 := 1) (v := a) r0 htc hdc (by omega)
  have r2 := Rel_tO (j0 := C.2.2.2.2.2.2.1) (w0 := 2) (v := c) r1 htc hdc (by omega)
  have r3 := Rel_tO (j0 := C.2.2.2.2.2.2.1) (w0 := 3) (v := f) r2 htc hdc (by omega)
  have r4 := Rel_tO (j0 := C.2.2.2.2.2.2.1) (w0 := 4) (v := u) r3 htc hdc (by omega)
  have r5 := Rel_tO (j0 := C.2.2.2.2.2.2.1) (w0 := 5) (v := p) r4 htc hdc (by omega)
  have r6 := Rel_tO (j0 := C.2.2.2.2.2.2.1) (w0 := 6) (v := nI 0) r5 htc hdc (by omega)
  have r7 := Rel_np0 r6 htc hdc
  refine Rel_tc1 (T := (kd, nI kd, a, c, f, u, p, kCosts kd p)) r7 htc hdc rfl h6 ?_ ?_ ?_ ?_ ?_ ?_ ?_
  · rw [pk_un (by omega), pk_un (by omega), pk_un (by omega), pk_un (by omega), pk_un (by omega), pk_un (by omega), pk_un (by omega), pk_us]
  · rw [pk_un (by omega), pk_un (by omega), pk_un (by omega), pk_un (by omega), pk_un (by omega), pk_un (by omega), pk_us]
  · rw [pk_un (by omega), pk_un (by omega), pk_un (by omega), pk_un (by omega), pk_un (by omega), pk_us]
  · rw [pk_un (by omega), pk_un (by omega), pk_un (by omega), pk_un (by omega), pk_us]
  · rw [pk_un (by omega), pk_un (by omega), pk_un (by omega), pk_us]
  · rw [pk_un (by omega), pk_un (by omega), pk_us]
  · rw [pk_un (by omega), pk_us, hb]; rfl
section ML
variable {b : Nat → Int32} {C : CoV} {tr : Nat → TrV} {Y : YrV} {pc : Nat} {P : Nat → YrV} {M : MoV} {f : Nat → Int32} {k a c f1 u1 p1 : Int32}
def trF (M : MoV) (f : Nat → Int32) (C : CoV) (ok : Bool) : Nat → Int32 := if ok = true then (if C.2.2.2.2.2.2.1 < 6 then f else moRef M f 2) else moRef M f 0
def trPc (C : CoV) (ok : Bool) (pc : Nat) : Nat := if ok = true ∧ C.2.2.2.2.2.2.1 < 6 then 0 else pc
theorem okT_1 (h : wi k 0 5 = false) : okTr C k a c f1 u1 p1 = false := by unfold okTr; rw [h]; simp
theorem okT_2 (h : stCell C c = false) : okTr C k a c f1 u1 p1 = false := by unfold okTr; rw [h]; simp
theorem okT_3 (h : wi a 0 c = false) : okTr C k a c f1 u1 p1 = false := by
  unfold okTr
  by_cases e : a ≤ c
  · have : stCell C a = false := by
      unfold stCell
      unfold wi at h ⊢
      rw [decide_eq_true e, Bool.and_true] at h
      rw [h]; simp
    rw [this]; simp
  · rw [decide_eq_false e]; simp
theorem okT_4 (h : wi u1 0 99 = false) : okTr C k a c f1 u1 p1 = false := by unfold okTr; rw [h]; simp
theorem okT_5 (h : wi f1 0 99 = false) : okTr C k a c f1 u1 p1 = false := by unfold okTr; rw [h]; simp
theorem okT_6 (h : wi p1 0 20 = false) : okTr C k a c f1 u1 p1 = false := by unfold okTr; rw [h]; simp
theorem okT_y (h1 : wi k 0 5 = true) (h2 : stCell C c = true) (h3 : wi a 0 c = true) (h4 : wi u1 0 99 = true) (h5 : wi f1 0 99 = true) (h6 : wi p1 0 20 = true) : okTr C k a c f1 u1 p1 = true := by
  obtain ⟨q1, q2⟩ := wi_iff.mp h3
  obtain ⟨q3, q4⟩ := wi_iff.mp (show wi c 0 (nI (coN C) - 1) = true from h2)
  have ha : stCell C a = true := wi_iff.mpr ⟨q1, Int32.le_trans q2 q4⟩
  unfold okTr
  rw [h1, h2, h4, h5, h6, ha, decide_eq_true q2]; rfl
theorem tre_bad (hr : Rel b C tr Y pc P) (h : okTr C k a c f1 u1 p1 = false) : -2 = tTrR C k a c f1 u1 p1 ∧ Rel b (tTr C tr k a c f1 u1 p1).1 (tTr C tr k a c f1 u1 p1).2 Y (trPc C (okTr C k a c f1 u1 p1) pc) P ∧ moRef M f 0 = trF M f C (okTr C k a c f1 u1 p1) := by
  have hf : ¬ okTr C k a c f1 u1 p1 = true := by rw [h]; exact Bool.false_ne_true
  have e1 : tTrR C k a c f1 u1 p1 = -2 := if_neg hf
  have e2 : tTr C tr k a c f1 u1 p1 = (C, tr) := if_neg hf
  have e3 : trPc C (okTr C k a c f1 u1 p1) pc = pc := if_neg (fun q => hf q.1)
  have e4 : trF M f C (okTr C k a c f1 u1 p1) = moRef M f 0 := if_neg hf
  rw [e1, e2, e3, e4]
  exact ⟨rfl, hr, rfl⟩
theorem tre_full (hr : Rel b C tr Y pc P) (h : okTr C k a c f1 u1 p1 = true) (h6 : ¬ C.2.2.2.2.2.2.1 < 6) : -4 = tTrR C k a c f1 u1 p1 ∧ Rel b (tTr C tr k a c f1 u1 p1).1 (tTr C tr k a c f1 u1 p1).2 Y (trPc C (okTr C k a c f1 u1 p1) pc) P ∧ moRef M f 2 = trF M f C (okTr C k a c f1 u1 p1) := by
  have e1 : tTrR C k a c f1 u1 p1 = -4 := (if_pos h).trans (if_neg h6)
  have e2 : tTr C tr k a c f1 u1 p1 = (C, tr) := (if_pos h).trans (if_neg h6)
  have e3 : trPc C (okTr C k a c f1 u1 p1) pc = pc := if_neg (fun q => h6 q.2)
  have e4 : trF M f C (okTr C k a c f1 u1 p1) = moRef M f 2 := (if_pos h).trans (if_neg h6)
  rw [e1, e2, e3, e4]
  exact ⟨rfl, hr, rfl⟩
theorem tre_ok {j : Nat} (hj : j < 2 ^ 31) (hr : Rel b C tr Y pc P) (hdc : C.2.2.2.2.2.2.2.1 ≤ 6) (h : okTr C (nI j) a c f1 u1 p1 = true) (h6 : C.2.2.2.2.2.2.1 < 6) (hb : yrBr Y C.2.2.2.2.2.2.1 = false) : nI C.2.2.2.2.2.2.1 = tTrR C (nI j) a c f1 u1 p1 ∧ Rel (upd (addB b C.2.2.2.2.2.2.1 (nI j) a c f1 u1 p1) 6 (nI 0)) (tTr C tr (nI j) a c f1 u1 p1).1 (tTr C tr (nI j) a c f1 u1 p1).2 Y (trPc C (okTr C (nI j) a c f1 u1 p1) pc) P ∧ f = trF M f C (okTr C (nI j) a c f1 u1 p1) := by
  have e1 : tTrR C (nI j) a c f1 u1 p1 = nI C.2.2.2.2.2.2.1 := (if_pos h).trans (if_pos h6)
  have e2 : tTr C tr (nI j) a c f1 u1 p1 = coAdd C tr j a c f1 u1 p1 := by
    unfold tTr; rw [if_pos h, nI_clamp hj]
  have e3 : trPc C (okTr C (nI j) a c f1 u1 p1) pc = 0 := if_pos ⟨h, h6⟩
  have e4 : trF M f C (okTr C (nI j) a c f1 u1 p1) = f := (if_pos h).trans (if_pos h6)
  rw [e1, e2, e3, e4]
  exact ⟨rfl, Rel_add hr hdc h6 hb, rfl⟩
end ML
