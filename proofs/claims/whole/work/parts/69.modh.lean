def okP (ok : Bool) (pc : Nat) : Nat := if ok = true then 0 else pc
section MH
variable {b : Nat → Int32} {C : CoV} {tr : Nat → TrV} {Y : YrV} {pc : Nat} {P : Nat → YrV} {M : MoV} {f : Nat → Int32} {n k : Int32} {j : Nat}
theorem bell_ok (hr : Rel b C tr Y pc P) (htc : C.2.2.2.2.2.2.1 ≤ 6) (hdc : C.2.2.2.2.2.2.2.1 ≤ 6) (c : wi n 0 999 = true) : b 2 = beR Y n ∧ Rel (upd (upd b 2 n) 6 (nI 0)) C tr (beY Y n) (okP (wi n 0 999) pc) P ∧ f = moV M f (wi n 0 999) := by
  unfold beR beY okP moV
  rw [if_pos c, if_pos c, if_pos c, if_pos c]
  exact ⟨hr.be, Rel_np0 (Rel_bells hr htc hdc) htc hdc, rfl⟩
theorem bell_no (hr : Rel b C tr Y pc P) (c : wi n 0 999 = false) : -2 = beR Y n ∧ Rel b C tr (beY Y n) (okP (wi n 0 999) pc) P ∧ moRef M f 0 = moV M f (wi n 0 999) := by
  unfold beR beY okP moV
  rw [c]
  exact ⟨rfl, hr, rfl⟩
theorem moon_ok (hr : Rel b C tr Y pc P) (htc : C.2.2.2.2.2.2.1 ≤ 6) (hdc : C.2.2.2.2.2.2.2.1 ≤ 6) (c : wi n 1 9 = true) : b 3 = tMoR C n ∧ Rel (upd (upd b 3 n) 6 (nI 0)) (tMo C n) tr Y (okP (wi n 1 9) pc) P ∧ f = moV M f (wi n 1 9) := by
  unfold tMoR tMo okP moV
  rw [if_pos c, if_pos c, if_pos c, if_pos c]
  exact ⟨hr.mo, Rel_np0 (Rel_mo hr htc hdc) htc hdc, rfl⟩
theorem moon_no (hr : Rel b C tr Y pc P) (c : wi n 1 9 = false) : -2 = tMoR C n ∧ Rel b (tMo C n) tr Y (okP (wi n 1 9) pc) P ∧ moRef M f 0 = moV M f (wi n 1 9) := by
  unfold tMoR tMo okP moV
  rw [c]
  exact ⟨rfl, hr, rfl⟩
theorem want_ok (hr : Rel b C tr Y pc P) (htc : C.2.2.2.2.2.2.1 ≤ 6) (hdc : C.2.2.2.2.2.2.2.1 ≤ 6) (hj : j < 8) (c0 : wi (nI j) 0 7 = true) (c1 : wi n 0 15 = true) : b (7 + j) = tWaR C (nI j) n ∧ Rel (upd (upd b (7 + j) n) 6 (nI 0)) (tWa C (nI j) n) tr Y (okP (okWant (nI j) n) pc) P ∧ f = moV M f (okWant (nI j) n) := by
  have c : okWant (nI j) n = true := by unfold okWant; rw [c0, c1]; rfl
  unfold tWaR tWa okP moV
  rw [if_pos c, if_pos c, if_pos c, if_pos c, nI_clamp (by omega)]
  exact ⟨hr.wn hj, Rel_np0 (Rel_wn hr htc hdc hj) htc hdc, rfl⟩
theorem want_no (hr : Rel b C tr Y pc P) (c : wi k 0 7 = false ∨ wi n 0 15 = false) : -2 = tWaR C k n ∧ Rel b (tWa C k n) tr Y (okP (okWant k n) pc) P ∧ moRef M f 0 = moV M f (okWant k n) := by
  have c : okWant k n = false := by unfold okWant; rcases c with c | c <;> rw [c] <;> simp
  unfold tWaR tWa okP moV
  rw [c]
  exact ⟨rfl, hr, rfl⟩
theorem dike_ok (hr : Rel b C tr Y pc P) (htc : C.2.2.2.2.2.2.1 ≤ 6) (hdc : C.2.2.2.2.2.2.2.1 ≤ 6) (hj : j < 8) (c0 : stCell C (nI j) = true) (c1 : wi n 0 9 = true) : b (15 + 5 * j + 3) = tDiR C Y (nI j) n ∧ Rel (upd (upd b (15 + 5 * j + 3) n) 6 (nI 0)) C tr (tDi C Y (nI j) n) (okP (okDike C (nI j) n) pc) P ∧ f = moV M f (okDike C (nI j) n) := by
  have c : okDike C (nI j) n = true := by unfold okDike; rw [c0, c1]; rfl
  unfold tDiR tDi okP moV
  rw [if_pos c, if_pos c, if_pos c, if_pos c, nI_clamp (by omega)]
  exact ⟨hr.c3 hj, Rel_np0 (Rel_dike hr htc hdc hj) htc hdc, rfl⟩
theorem dike_no (hr : Rel b C tr Y pc P) (c : stCell C k = false ∨ wi n 0 9 = false) : -2 = tDiR C Y k n ∧ Rel b C tr (tDi C Y k n) (okP (okDike C k n) pc) P ∧ moRef M f 0 = moV M f (okDike C k n) := by
  have c : okDike C k n = false := by unfold okDike; rcases c with c | c <;> rw [c] <;> simp
  unfold tDiR tDi okP moV
  rw [c]
  exact ⟨rfl, hr, rfl⟩
end MH
