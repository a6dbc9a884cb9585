/-- the reference's book holds the coast, its treaties, the year, the years that may be undone -/
def RelP (b : Nat → Int32) (q : Nat) (Z : YrV) (n : Nat) : Prop := b (115 + 24 * q) = Z.1 ∧ b (115 + 24 * q + 1) = Z.2.1 ∧ (∀ x, x < 8 → b (115 + 24 * q + 2 + x) = Z.2.2.2.1 x ∧ b (115 + 24 * q + 10 + x) = Z.2.2.2.2 x) ∧ ∀ t, t < n → b (115 + 24 * q + 18 + t) = bI (yrBr Z t)
def RelT (b : Nat → Int32) (t : Nat) (T : TrV) (br : Bool) : Prop := b (55 + 7 * t + 0) = nI T.1 ∧ b (55 + 7 * t + 1) = tFrom T ∧ b (55 + 7 * t + 2) = tTo T ∧ b (55 + 7 * t + 3) = tFirst T ∧ b (55 + 7 * t + 4) = tTill T ∧ b (55 + 7 * t + 5) = tPrice T ∧ b (55 + 7 * t + 6) = bI br
def RelC (b : Nat → Int32) (x : Nat) (C : CoV) (Y : YrV) : Prop := b (15 + 5 * x + 0) = coHt C x ∧ b (15 + 5 * x + 1) = coWo C x ∧ b (15 + 5 * x + 2) = coTn C x ∧ b (15 + 5 * x + 3) = Y.2.2.2.1 x ∧ b (15 + 5 * x + 4) = Y.2.2.2.2 x
def RelD (b : Nat → Int32) (j : Nat) (C : CoV) : Prop := b (97 + 3 * j + 0) = coTw C j ∧ b (97 + 3 * j + 1) = coTd C j ∧ b (97 + 3 * j + 2) = coTv C j
def Rel (b : Nat → Int32) (C : CoV) (tr : Nat → TrV) (Y : YrV) (pc : Nat) (P : Nat → YrV) : Prop :=
  (b 0 = nI C.1 ∧ b 1 = Y.1 ∧ b 2 = Y.2.1 ∧ b 3 = C.2.1 ∧ b 4 = nI C.2.2.2.2.2.2.1 ∧ b 5 = nI C.2.2.2.2.2.2.2.1 ∧ b 6 = nI pc) ∧ (∀ k, k < 8 → b (7 + k) = coWn C k) ∧ (∀ x, x < 8 → RelC b x C Y) ∧ (∀ t, t < coTc C → RelT b t (tr t) (yrBr Y t)) ∧ (∀ j, j < coDc C → RelD b j C) ∧ ∀ q, q < pc → RelP b q (P q) (coTc C)
/-- what a coast told keeps -/
def Inv (C : CoV) (tr : Nat → TrV) (Y : YrV) : Prop :=
  (1 ≤ C.1 ∧ C.1 ≤ 8) ∧ (∃ m : Nat, C.2.1 = nI m ∧ 1 ≤ m ∧ m ≤ 9) ∧ C.2.2.2.2.2.2.1 ≤ 6 ∧ C.2.2.2.2.2.2.2.1 ≤ 6 ∧ (∀ i, i < 6 → (tr i).1 < 6 ∧ (tr i).2.1 = nI (tr i).1 ∧ tCosts (tr i) = kCosts (tr i).1 (tPrice (tr i))) ∧
  (∀ x, x < 8 → ∃ t : Nat, coTn C x = nI t ∧ t < 3) ∧ (∀ i, i < C.2.2.2.2.2.2.1 → ∃ a b f u : Nat, tFrom (tr i) = nI a ∧ tTo (tr i) = nI b ∧ a ≤ b ∧ b < C.1 ∧ tFirst (tr i) = nI f ∧ tTill (tr i) = nI u ∧ f < 2 ^ 20 ∧ u < 2 ^ 20) ∧ (∃ y : Nat, Y.1 = nI y ∧ y < 1000000)
section RelA
variable {b : Nat → Int32} {C : CoV} {tr : Nat → TrV} {Y : YrV} {pc : Nat} {P : Nat → YrV}
theorem Rel.n (h : Rel b C tr Y pc P) : b 0 = nI C.1 := h.1.1
theorem Rel.y (h : Rel b C tr Y pc P) : b 1 = Y.1 := h.1.2.1
theorem Rel.be (h : Rel b C tr Y pc P) : b 2 = Y.2.1 := h.1.2.2.1
theorem Rel.mo (h : Rel b C tr Y pc P) : b 3 = C.2.1 := h.1.2.2.2.1
theorem Rel.tc (h : Rel b C tr Y pc P) : b 4 = nI C.2.2.2.2.2.2.1 := h.1.2.2.2.2.1
theorem Rel.dc (h : Rel b C tr Y pc P) : b 5 = nI C.2.2.2.2.2.2.2.1 := h.1.2.2.2.2.2.1
theorem Rel.np (h : Rel b C tr Y pc P) : b 6 = nI pc := h.1.2.2.2.2.2.2
theorem Rel.wn (h : Rel b C tr Y pc P) {k : Nat} (hk : k < 8) : b (7 + k) = C.2.2.2.2.2.1 k := h.2.1 k hk
theorem Rel.c0 (h : Rel b C tr Y pc P) {x : Nat} (hx : x < 8) : b (15 + 5 * x + 0) = C.2.2.1 x := (h.2.2.1 x hx).1
theorem Rel.c1 (h : Rel b C tr Y pc P) {x : Nat} (hx : x < 8) : b (15 + 5 * x + 1) = C.2.2.2.1 x := (h.2.2.1 x hx).2.1
theorem Rel.c2 (h : Rel b C tr Y pc P) {x : Nat} (hx : x < 8) : b (15 + 5 * x + 2) = C.2.2.2.2.1 x := (h.2.2.1 x hx).2.2.1
theorem Rel.c3 (h : Rel b C tr Y pc P) {x : Nat} (hx : x < 8) : b (15 + 5 * x + 3) = Y.2.2.2.1 x := (h.2.2.1 x hx).2.2.2.1
theorem Rel.c4 (h : Rel b C tr Y pc P) {x : Nat} (hx : x < 8) : b (15 + 5 * x + 4) = Y.2.2.2.2 x := (h.2.2.1 x hx).2.2.2.2
theorem Rel.t0 (h : Rel b C tr Y pc P) {t : Nat} (ht : t < C.2.2.2.2.2.2.1) : b (55 + 7 * t + 0) = nI (tr t).1 := (h.2.2.2.1 t ht).1
theorem Rel.t1 (h : Rel b C tr Y pc P) {t : Nat} (ht : t < C.2.2.2.2.2.2.1) : b (55 + 7 * t + 1) = (tr t).2.2.1 := (h.2.2.2.1 t ht).2.1
theorem Rel.t2 (h : Rel b C tr Y pc P) {t : Nat} (ht : t < C.2.2.2.2.2.2.1) : b (55 + 7 * t + 2) = (tr t).2.2.2.1 := (h.2.2.2.1 t ht).2.2.1
theorem Rel.t3 (h : Rel b C tr Y pc P) {t : Nat} (ht : t < C.2.2.2.2.2.2.1) : b (55 + 7 * t + 3) = (tr t).2.2.2.2.1 := (h.2.2.2.1 t ht).2.2.2.1
theorem Rel.t4 (h : Rel b C tr Y pc P) {t : Nat} (ht : t < C.2.2.2.2.2.2.1) : b (55 + 7 * t + 4) = (tr t).2.2.2.2.2.1 := (h.2.2.2.1 t ht).2.2.2.2.1
theorem Rel.t5 (h : Rel b C tr Y pc P) {t : Nat} (ht : t < C.2.2.2.2.2.2.1) : b (55 + 7 * t + 5) = (tr t).2.2.2.2.2.2.1 := (h.2.2.2.1 t ht).2.2.2.2.2.1
theorem Rel.t6 (h : Rel b C tr Y pc P) {t : Nat} (ht : t < C.2.2.2.2.2.2.1) : b (55 + 7 * t + 6) = bI (yrBr Y t) := (h.2.2.2.1 t ht).2.2.2.2.2.2
theorem Rel.d0 (h : Rel b C tr Y pc P) {j : Nat} (hj : j < C.2.2.2.2.2.2.2.1) : b (97 + 3 * j + 0) = C.2.2.2.2.2.2.2.2.1 j := (h.2.2.2.2.1 j hj).1
theorem Rel.d1 (h : Rel b C tr Y pc P) {j : Nat} (hj : j < C.2.2.2.2.2.2.2.1) : b (97 + 3 * j + 1) = C.2.2.2.2.2.2.2.2.2.1 j := (h.2.2.2.2.1 j hj).2.1
theorem Rel.d2 (h : Rel b C tr Y pc P) {j : Nat} (hj : j < C.2.2.2.2.2.2.2.1) : b (97 + 3 * j + 2) = C.2.2.2.2.2.2.2.2.2.2 j := (h.2.2.2.2.1 j hj).2.2
end RelA
