/-- the book without what may be undone -/
def Rel0 (b : Nat → Int32) (C : CoV) (tr : Nat → TrV) (Y : YrV) (pc : Nat) (P : Nat → YrV) : Prop := ∃ b', Rel b' C tr Y 0 P ∧ (C.2.2.2.2.2.2.1 ≤ 6 ∧ C.2.2.2.2.2.2.2.1 ≤ 6) ∧ ∀ k, k < 115 → k ≠ 6 → b k = b' k
section RelZ
variable {b : Nat → Int32} {C : CoV} {tr : Nat → TrV} {Y : YrV} {pc : Nat} {P : Nat → YrV}
theorem Rel0.n (h : Rel0 b C tr Y pc P) : b 0 = nI C.1 := by obtain ⟨b', h, -, e⟩ := h; rw [e _ (by omega) (by omega)]; exact h.n
theorem Rel0.y (h : Rel0 b C tr Y pc P) : b 1 = Y.1 := by obtain ⟨b', h, -, e⟩ := h; rw [e _ (by omega) (by omega)]; exact h.y
theorem Rel0.be (h : Rel0 b C tr Y pc P) : b 2 = Y.2.1 := by obtain ⟨b', h, -, e⟩ := h; rw [e _ (by omega) (by omega)]; exact h.be
theorem Rel0.mo (h : Rel0 b C tr Y pc P) : b 3 = C.2.1 := by obtain ⟨b', h, -, e⟩ := h; rw [e _ (by omega) (by omega)]; exact h.mo
theorem Rel0.tc (h : Rel0 b C tr Y pc P) : b 4 = nI C.2.2.2.2.2.2.1 := by obtain ⟨b', h, -, e⟩ := h; rw [e _ (by omega) (by omega)]; exact h.tc
theorem Rel0.wn (h : Rel0 b C tr Y pc P) {k : Nat} (hk : k < 8) : b (7 + k) = C.2.2.2.2.2.1 k := by obtain ⟨b', h, -, e⟩ := h; rw [e _ (by omega) (by omega)]; exact h.wn hk
theorem Rel0.c0 (h : Rel0 b C tr Y pc P) {x : Nat} (hx : x < 8) : b (15 + 5 * x + 0) = C.2.2.1 x := by obtain ⟨b', h, -, e⟩ := h; rw [e _ (by omega) (by omega)]; exact h.c0 hx
theorem Rel0.c1 (h : Rel0 b C tr Y pc P) {x : Nat} (hx : x < 8) : b (15 + 5 * x + 1) = C.2.2.2.1 x := by obtain ⟨b', h, -, e⟩ := h; rw [e _ (by omega) (by omega)]; exact h.c1 hx
theorem Rel0.c2 (h : Rel0 b C tr Y pc P) {x : Nat} (hx : x < 8) : b (15 + 5 * x + 2) = C.2.2.2.2.1 x := by obtain ⟨b', h, -, e⟩ := h; rw [e _ (by omega) (by omega)]; exact h.c2 hx
theorem Rel0.c3 (h : Rel0 b C tr Y pc P) {x : Nat} (hx : x < 8) : b (15 + 5 * x + 3) = Y.2.2.2.1 x := by obtain ⟨b', h, -, e⟩ := h; rw [e _ (by omega) (by omega)]; exact h.c3 hx
theorem Rel0.c4 (h : Rel0 b C tr Y pc P) {x : Nat} (hx : x < 8) : b (15 + 5 * x + 4) = Y.2.2.2.2 x := by obtain ⟨b', h, -, e⟩ := h; rw [e _ (by omega) (by omega)]; exact h.c4 hx
theorem Rel0.t0 (h : Rel0 b C tr Y pc P) {t : Nat} (ht : t < C.2.2.2.2.2.2.1) : b (55 + 7 * t + 0) = nI (tr t).1 := by obtain ⟨b', h, ⟨q, -⟩, e⟩ := h; rw [e _ (by omega) (by omega)]; exact h.t0 ht
theorem Rel0.t1 (h : Rel0 b C tr Y pc P) {t : Nat} (ht : t < C.2.2.2.2.2.2.1) : b (55 + 7 * t + 1) = (tr t).2.2.1 := by obtain ⟨b', h, ⟨q, -⟩, e⟩ := h; rw [e _ (by omega) (by omega)]; exact h.t1 ht
theorem Rel0.t2 (h : Rel0 b C tr Y pc P) {t : Nat} (ht : t < C.2.2.2.2.2.2.1) : b (55 + 7 * t + 2) = (tr t).2.2.2.1 := by obtain ⟨b', h, ⟨q, -⟩, e⟩ := h; rw [e _ (by omega) (by omega)]; exact h.t2 ht
theorem Rel0.t3 (h : Rel0 b C tr Y pc P) {t : Nat} (ht : t < C.2.2.2.2.2.2.1) : b (55 + 7 * t + 3) = (tr t).2.2.2.2.1 := by obtain ⟨b', h, ⟨q, -⟩, e⟩ := h; rw [e _ (by omega) (by omega)]; exact h.t3 ht
theorem Rel0.t4 (h : Rel0 b C tr Y pc P) {t : Nat} (ht : t < C.2.2.2.2.2.2.1) : b (55 + 7 * t + 4) = (tr t).2.2.2.2.2.1 := by obtain ⟨b', h, ⟨q, -⟩, e⟩ := h; rw [e _ (by omega) (by omega)]; exact h.t4 ht
theorem Rel0.t5 (h : Rel0 b C tr Y pc P) {t : Nat} (ht : t < C.2.2.2.2.2.2.1) : b (55 + 7 * t + 5) = (tr t).2.2.2.2.2.2.1 := by obtain ⟨b', h, ⟨q, -⟩, e⟩ := h; rw [e _ (by omega) (by omega)]; exact h.t5 ht
theorem Rel0.t6 (h : Rel0 b C tr Y pc P) {t : Nat} (ht : t < C.2.2.2.2.2.2.1) : b (55 + 7 * t + 6) = bI (yrBr Y t) := by obtain ⟨b', h, ⟨q, -⟩, e⟩ := h; rw [e _ (by omega) (by omega)]; exact h.t6 ht
theorem Rel0_of {Z : YrV} {i : Nat} {v : Int32} (h : Rel0 b C tr Y pc P) (hi : i < 115) (h6 : i ≠ 6) (f : ∀ b', Rel b' C tr Y 0 P → Rel (upd b' i v) C tr Z 0 P) : Rel0 (upd b i v) C tr Z pc P := by
  obtain ⟨b', h, hb, e⟩ := h
  refine ⟨upd b' i v, f b' h, hb, fun k hk hk6 => ?_⟩
  by_cases q : k = i
  · subst q; rw [pk_us, pk_us]
  · rw [pk_un q, pk_un q]; exact e k hk hk6
theorem Rel0_pay {t0 : Nat} (h : Rel0 b C tr Y pc P) (htc : C.2.2.2.2.2.2.1 ≤ 6) (hdc : C.2.2.2.2.2.2.2.1 ≤ 6) (h0 : t0 < C.2.2.2.2.2.2.1) (hb : yrBr Y t0 = false) : Rel0 (upd b (55 + 7 * t0 + 6) (nI 0)) C tr Y pc P := Rel0_of h (by omega) (by omega) (fun _ h => Rel_pay h htc hdc h0 hb)
theorem Rel0_bells {v : Int32} (h : Rel0 b C tr Y pc P) (htc : C.2.2.2.2.2.2.1 ≤ 6) (hdc : C.2.2.2.2.2.2.2.1 ≤ 6) : Rel0 (upd b (2) (v)) C tr (Y.1, v, Y.2.2) pc P := Rel0_of h (by omega) (by omega) (fun _ h => Rel_bells h htc hdc)
theorem Rel0_brk {t0 : Nat} (h : Rel0 b C tr Y pc P) (htc : C.2.2.2.2.2.2.1 ≤ 6) (hdc : C.2.2.2.2.2.2.2.1 ≤ 6) (h0 : t0 < C.2.2.2.2.2.2.1) : Rel0 (upd b (55 + 7 * t0 + 6) (nI 1)) C tr (Y.1, Y.2.1, Y.2.2.1 ||| bit t0, Y.2.2.2) pc P := Rel0_of h (by omega) (by omega) (fun _ h => Rel_brk h htc hdc h0)
theorem Rel0_year {v : Int32} (h : Rel0 b C tr Y pc P) (htc : C.2.2.2.2.2.2.1 ≤ 6) (hdc : C.2.2.2.2.2.2.2.1 ≤ 6) : Rel0 (upd b (1) (v)) C tr (v, Y.2) pc P := Rel0_of h (by omega) (by omega) (fun _ h => Rel_year h htc hdc)
theorem Rel0_dike {x0 : Nat} {v : Int32} (h : Rel0 b C tr Y pc P) (htc : C.2.2.2.2.2.2.1 ≤ 6) (hdc : C.2.2.2.2.2.2.2.1 ≤ 6) (h0 : x0 < 8) : Rel0 (upd b (15 + 5 * x0 + 3) (v)) C tr (Y.1, Y.2.1, Y.2.2.1, upd Y.2.2.2.1 x0 v, Y.2.2.2.2) pc P := Rel0_of h (by omega) (by omega) (fun _ h => Rel_dike h htc hdc h0)
theorem Rel0_fl {x0 : Nat} {v : Int32} (h : Rel0 b C tr Y pc P) (htc : C.2.2.2.2.2.2.1 ≤ 6) (hdc : C.2.2.2.2.2.2.2.1 ≤ 6) (h0 : x0 < 8) : Rel0 (upd b (15 + 5 * x0 + 4) (v)) C tr (Y.1, Y.2.1, Y.2.2.1, Y.2.2.2.1, upd Y.2.2.2.2 x0 v) pc P := Rel0_of h (by omega) (by omega) (fun _ h => Rel_fl h htc hdc h0)
end RelZ
