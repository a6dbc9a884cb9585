def addB (b : Nat → Int32) (t : Nat) (k a c f u p : Int32) : Nat → Int32 := upd (upd (upd (upd (upd (upd (upd (upd b (55 + 7 * t + 0) k) (55 + 7 * t + 0 + 1) a) (55 + 7 * t + 0 + 2) c) (55 + 7 * t + 0 + 3) f) (55 + 7 * t + 0 + 4) u) (55 + 7 * t + 0 + 5) p) (55 + 7 * t + 0 + 6) (nI 0)) 4 (nI (t + 1))
theorem upd_sw {b : Nat → Int32} {i j : Nat} {v w : Int32} (h : i ≠ j) : upd (upd b i v) j w = upd (upd b j w) i v := funext fun k => by
  by_cases e : k = i
  · subst e; rw [pk_un h, pk_us, pk_us]
  · by_cases e2 : k = j
    · subst e2; rw [pk_us, pk_un e, pk_us]
    · rw [pk_un e2, pk_un e, pk_un e, pk_un e2]
theorem Rel_add {b : Nat → Int32} {C : CoV} {tr : Nat → TrV} {Y : YrV} {pc kd : Nat} {P : Nat → YrV} {a c f u p : Int32} (hr : Rel b C tr Y pc P) (hdc : C.2.2.2.2.2.2.2.1 ≤ 6) (h6 : C.2.2.2.2.2.2.1 < 6) (hb : yrBr Y C.2.2.2.2.2.2.1 = false) : Rel (upd (addB b C.2.2.2.2.2.2.1 (nI kd) a c f u p) 6 (nI 0)) (coAdd C tr kd a c f u p).1 (coAdd C tr kd a c f u p).2 Y 0 P := by
  have htc : C.2.2.2.2.2.2.1 ≤ 6 := by omega
  have e2 : coAdd C tr kd a c f u p = _ := if_pos h6
  rw [e2]
  unfold addB
  rw [upd_sw (by decide)]
  have r0 := Rel_tO (j0 := C.2.2.2.2.2.2.1) (w0 := 0) (v := nI kd) hr htc hdc (by omega)
  have r1 := Rel_tO (j0 := C.2.2.2.2.2.2.1) (w0 := 1) (v := a) r0 htc hdc (by omega)
  have r2 := Rel_tO (j0 := C.2.2.2.2.2.2.1) (w0 := 2) (v := c) r1 htc hdc (by omega)
  have r3 := Rel_tO (j0 := C.2.2.2.2.2.2.1) (w0 := 3) (v := f) r2 htc hdc (by omega)
  have r4 := Rel_tO (j0 := C.2.2.2.2.2.2.1) (w0 := 4) (v := u) r3 htc hdc (by omega)
  have r5 := Rel_tO (j0 := C.2.2.2.2.2.2.1) (w0 := 5) (v := p) r4 htc hdc (by omega)
  have r6 := Rel_tO (j0 := C.2.2.2.2.2.2.1) (w0 := 6) (v := nI 0) r5 htc hdc (by omega)
  have r7 := Rel_np0 r6 htc hdc
  refine Rel_tc1 (T := (kd, nI kd, a, c, f, u, p, kCosts kd p)) r7 htc hdc rfl h6 ?_ ?_ ?_ ?_ ?_ ?_ ?_
  · rw [pk_un (by omega), pk_un (by omega), pk_un (by omega), pk_un (by omega), pk_un (by omega), pk_un (by omega), pk_un (by omega), pk_us]
  · rw [pk_un (by omega), pk_un (by omega), pk_un (by omega), pk_un (by omega), pk_un (by omega), pk_un (by omega), pk_us]
  · rw [pk_un (by omega), pk_un (by omega), pk_un (by omega), pk_un (by omega), pk_un (by omega), pk_us]
  · rw [pk_un (by omega), pk_un (by omega), pk_un (by omega), pk_un (by omega), pk_us]
  · rw [pk_un (by omega), pk_un (by omega), pk_un (by omega), pk_us]
  · rw [pk_un (by omega), pk_un (by omega), pk_us]
  · rw [pk_un (by omega), pk_us, hb]; rfl
