theorem Rel_np0 {b : Nat → Int32} {C : CoV} {tr : Nat → TrV} {Y : YrV} {pc : Nat} {P : Nat → YrV}  (h : Rel b C tr Y pc P) (htc : C.2.2.2.2.2.2.1 ≤ 6) (hdc : C.2.2.2.2.2.2.2.1 ≤ 6)  : Rel (upd b (6) (nI 0)) C tr Y 0 P := by
  refine ⟨⟨?_, ?_, ?_, ?_, ?_, ?_, ?_⟩, fun k hk => ?_, fun x hx => ⟨?_, ?_, ?_, ?_, ?_⟩, fun t ht => ⟨?_, ?_, ?_, ?_, ?_, ?_, ?_⟩, fun j hj => ⟨?_, ?_, ?_⟩, fun q hq => ⟨?_, ?_, fun x hx => ⟨?_, ?_⟩, fun t ht => ?_⟩⟩
  · exact (pk_un (by omega)).trans (h.1.1)
  · exact (pk_un (by omega)).trans (h.1.2.1)
  · exact (pk_un (by omega)).trans (h.1.2.2.1)
  · exact (pk_un (by omega)).trans (h.1.2.2.2.1)
  · exact (pk_un (by omega)).trans (h.1.2.2.2.2.1)
  · exact (pk_un (by omega)).trans (h.1.2.2.2.2.2.1)
  · exact pk_us
  · exact (pk_un (by omega)).trans (h.2.1 k hk)
  · exact (pk_un (by omega)).trans ((h.2.2.1 x hx).1)
  · exact (pk_un (by omega)).trans ((h.2.2.1 x hx).2.1)
  · exact (pk_un (by omega)).trans ((h.2.2.1 x hx).2.2.1)
  · exact (pk_un (by omega)).trans ((h.2.2.1 x hx).2.2.2.1)
  · exact (pk_un (by omega)).trans ((h.2.2.1 x hx).2.2.2.2)
  · have ht2 : t < C.2.2.2.2.2.2.1 := ht; exact (pk_un (by omega)).trans ((h.2.2.2.1 t ht).1)
  · have ht2 : t < C.2.2.2.2.2.2.1 := ht; exact (pk_un (by omega)).trans ((h.2.2.2.1 t ht).2.1)
  · have ht2 : t < C.2.2.2.2.2.2.1 := ht; exact (pk_un (by omega)).trans ((h.2.2.2.1 t ht).2.2.1)
  · have ht2 : t < C.2.2.2.2.2.2.1 := ht; exact (pk_un (by omega)).trans ((h.2.2.2.1 t ht).2.2.2.1)
  · have ht2 : t < C.2.2.2.2.2.2.1 := ht; exact (pk_un (by omega)).trans ((h.2.2.2.1 t ht).2.2.2.2.1)
  · have ht2 : t < C.2.2.2.2.2.2.1 := ht; exact (pk_un (by omega)).trans ((h.2.2.2.1 t ht).2.2.2.2.2.1)
  · have ht2 : t < C.2.2.2.2.2.2.1 := ht; exact (pk_un (by omega)).trans ((h.2.2.2.1 t ht).2.2.2.2.2.2)
  · have hj2 : j < C.2.2.2.2.2.2.2.1 := hj; exact (pk_un (by omega)).trans ((h.2.2.2.2.1 j hj).1)
  · have hj2 : j < C.2.2.2.2.2.2.2.1 := hj; exact (pk_un (by omega)).trans ((h.2.2.2.2.1 j hj).2.1)
  · have hj2 : j < C.2.2.2.2.2.2.2.1 := hj; exact (pk_un (by omega)).trans ((h.2.2.2.2.1 j hj).2.2)
  · exact absurd hq (Nat.not_lt_zero _)
  · exact absurd hq (Nat.not_lt_zero _)
  · exact absurd hq (Nat.not_lt_zero _)
  · exact absurd hq (Nat.not_lt_zero _)
  · exact absurd hq (Nat.not_lt_zero _)
theorem Rel_mo {b : Nat → Int32} {C : CoV} {tr : Nat → TrV} {Y : YrV} {pc : Nat} {P : Nat → YrV} {v : Int32} (h : Rel b C tr Y pc P) (htc : C.2.2.2.2.2.2.1 ≤ 6) (hdc : C.2.2.2.2.2.2.2.1 ≤ 6)  : Rel (upd b (3) (v)) (C.1, v, C.2.2) tr Y pc P := by
  refine ⟨⟨?_, ?_, ?_, ?_, ?_, ?_, ?_⟩, fun k hk => ?_, fun x hx => ⟨?_, ?_, ?_, ?_, ?_⟩, fun t ht => ⟨?_, ?_, ?_, ?_, ?_, ?_, ?_⟩, fun j hj => ⟨?_, ?_, ?_⟩, fun q hq => ⟨?_, ?_, fun x hx => ⟨?_, ?_⟩, fun t ht => ?_⟩⟩
  · exact (pk_un (by omega)).trans (h.1.1)
  · exact (pk_un (by omega)).trans (h.1.2.1)
  · exact (pk_un (by omega)).trans (h.1.2.2.1)
  · exact pk_us
  · exact (pk_un (by omega)).trans (h.1.2.2.2.2.1)
  · exact (pk_un (by omega)).trans (h.1.2.2.2.2.2.1)
  · exact (pk_un (by omega)).trans (h.1.2.2.2.2.2.2)
  · exact (pk_un (by omega)).trans (h.2.1 k hk)
  · exact (pk_un (by omega)).trans ((h.2.2.1 x hx).1)
  · exact (pk_un (by omega)).trans ((h.2.2.1 x hx).2.1)
  · exact (pk_un (by omega)).trans ((h.2.2.1 x hx).2.2.1)
  · exact (pk_un (by omega)).trans ((h.2.2.1 x hx).2.2.2.1)
  · exact (pk_un (by omega)).trans ((h.2.2.1 x hx).2.2.2.2)
  · have ht2 : t < C.2.2.2.2.2.2.1 := ht; exact (pk_un (by omega)).trans ((h.2.2.2.1 t ht).1)
  · have ht2 : t < C.2.2.2.2.2.2.1 := ht; exact (pk_un (by omega)).trans ((h.2.2.2.1 t ht).2.1)
  · have ht2 : t < C.2.2.2.2.2.2.1 := ht; exact (pk_un (by omega)).trans ((h.2.2.2.1 t ht).2.2.1)
  · have ht2 : t < C.2.2.2.2.2.2.1 := ht; exact (pk_un (by omega)).trans ((h.2.2.2.1 t ht).2.2.2.1)
  · have ht2 : t < C.2.2.2.2.2.2.1 := ht; exact (pk_un (by omega)).trans ((h.2.2.2.1 t ht).2.2.2.2.1)
  · have ht2 : t < C.2.2.2.2.2.2.1 := ht; exact (pk_un (by omega)).trans ((h.2.2.2.1 t ht).2.2.2.2.2.1)
  · have ht2 : t < C.2.2.2.2.2.2.1 := ht; exact (pk_un (by omega)).trans ((h.2.2.2.1 t ht).2.2.2.2.2.2)
  · have hj2 : j < C.2.2.2.2.2.2.2.1 := hj; exact (pk_un (by omega)).trans ((h.2.2.2.2.1 j hj).1)
  · have hj2 : j < C.2.2.2.2.2.2.2.1 := hj; exact (pk_un (by omega)).trans ((h.2.2.2.2.1 j hj).2.1)
  · have hj2 : j < C.2.2.2.2.2.2.2.1 := hj; exact (pk_un (by omega)).trans ((h.2.2.2.2.1 j hj).2.2)
  · exact (pk_un (by omega)).trans ((h.2.2.2.2.2 q hq).1)
  · exact (pk_un (by omega)).trans ((h.2.2.2.2.2 q hq).2.1)
  · exact (pk_un (by omega)).trans (((h.2.2.2.2.2 q hq).2.2.1 x hx).1)
  · exact (pk_un (by omega)).trans (((h.2.2.2.2.2 q hq).2.2.1 x hx).2)
  · have ht2 : t < C.2.2.2.2.2.2.1 := ht; exact (pk_un (by omega)).trans ((h.2.2.2.2.2 q hq).2.2.2 t ht)
theorem Rel_wn {b : Nat → Int32} {C : CoV} {tr : Nat → TrV} {Y : YrV} {pc : Nat} {P : Nat → YrV} {x0 : Nat} {v : Int32} (h : Rel b C tr Y pc P) (htc : C.2.2.2.2.2.2.1 ≤ 6) (hdc : C.2.2.2.2.2.2.2.1 ≤ 6) (h0 : x0 < 8) : Rel (upd b (7 + x0) (v)) (C.1, C.2.1, C.2.2.1, C.2.2.2.1, C.2.2.2.2.1, upd C.2.2.2.2.2.1 x0 v, C.2.2.2.2.2.2) tr Y pc P := by
  refine ⟨⟨?_, ?_, ?_, ?_, ?_, ?_, ?_⟩, fun k hk => ?_, fun x hx => ⟨?_, ?_, ?_, ?_, ?_⟩, fun t ht => ⟨?_, ?_, ?_, ?_, ?_, ?_, ?_⟩, fun j hj => ⟨?_, ?_, ?_⟩, fun q hq => ⟨?_, ?_, fun x hx => ⟨?_, ?_⟩, fun t ht => ?_⟩⟩
  · exact (pk_un (by omega)).trans (h.1.1)
  · exact (pk_un (by omega)).trans (h.1.2.1)
  · exact (pk_un (by omega)).trans (h.1.2.2.1)
  · exact (pk_un (by omega)).trans (h.1.2.2.2.1)
  · exact (pk_un (by omega)).trans (h.1.2.2.2.2.1)
  · exact (pk_un (by omega)).trans (h.1.2.2.2.2.2.1)
  · exact (pk_un (by omega)).trans (h.1.2.2.2.2.2.2)
  · by_cases e : k = x0
    · subst e; rw [pk_us]; exact pk_us.symm
    · exact (pk_un (by omega)).trans ((h.2.1 k hk).trans (pk_un e).symm)
  · exact (pk_un (by omega)).trans ((h.2.2.1 x hx).1)
  · exact (pk_un (by omega)).trans ((h.2.2.1 x hx).2.1)
  · exact (pk_un (by omega)).trans ((h.2.2.1 x hx).2.2.1)
  · exact (pk_un (by omega)).trans ((h.2.2.1 x hx).2.2.2.1)
  · exact (pk_un (by omega)).trans ((h.2.2.1 x hx).2.2.2.2)
  · have ht2 : t < C.2.2.2.2.2.2.1 := ht; exact (pk_un (by omega)).trans ((h.2.2.2.1 t ht).1)
  · have ht2 : t < C.2.2.2.2.2.2.1 := ht; exact (pk_un (by omega)).trans ((h.2.2.2.1 t ht).2.1)
  · have ht2 : t < C.2.2.2.2.2.2.1 := ht; exact (pk_un (by omega)).trans ((h.2.2.2.1 t ht).2.2.1)
  · have ht2 : t < C.2.2.2.2.2.2.1 := ht; exact (pk_un (by omega)).trans ((h.2.2.2.1 t ht).2.2.2.1)
  · have ht2 : t < C.2.2.2.2.2.2.1 := ht; exact (pk_un (by omega)).trans ((h.2.2.2.1 t ht).2.2.2.2.1)
  · have ht2 : t < C.2.2.2.2.2.2.1 := ht; exact (pk_un (by omega)).trans ((h.2.2.2.1 t ht).2.2.2.2.2.1)
  · have ht2 : t < C.2.2.2.2.2.2.1 := ht; exact (pk_un (by omega)).trans ((h.2.2.2.1 t ht).2.2.2.2.2.2)
  · have hj2 : j < C.2.2.2.2.2.2.2.1 := hj; exact (pk_un (by omega)).trans ((h.2.2.2.2.1 j hj).1)
  · have hj2 : j < C.2.2.2.2.2.2.2.1 := hj; exact (pk_un (by omega)).trans ((h.2.2.2.2.1 j hj).2.1)
  · have hj2 : j < C.2.2.2.2.2.2.2.1 := hj; exact (pk_un (by omega)).trans ((h.2.2.2.2.1 j hj).2.2)
  · exact (pk_un (by omega)).trans ((h.2.2.2.2.2 q hq).1)
  · exact (pk_un (by omega)).trans ((h.2.2.2.2.2 q hq).2.1)
  · exact (pk_un (by omega)).trans (((h.2.2.2.2.2 q hq).2.2.1 x hx).1)
  · exact (pk_un (by omega)).trans (((h.2.2.2.2.2 q hq).2.2.1 x hx).2)
  · have ht2 : t < C.2.2.2.2.2.2.1 := ht; exact (pk_un (by omega)).trans ((h.2.2.2.2.2 q hq).2.2.2 t ht)
theorem Rel_ht {b : Nat → Int32} {C : CoV} {tr : Nat → TrV} {Y : YrV} {pc : Nat} {P : Nat → YrV} {x0 : Nat} {v : Int32} (h : Rel b C tr Y pc P) (htc : C.2.2.2.2.2.2.1 ≤ 6) (hdc : C.2.2.2.2.2.2.2.1 ≤ 6) (h0 : x0 < 8) : Rel (upd b (15 + 5 * x0 + 0) (v)) (C.1, C.2.1, upd C.2.2.1 x0 v, C.2.2.2) tr Y pc P := by
  refine ⟨⟨?_, ?_, ?_, ?_, ?_, ?_, ?_⟩, fun k hk => ?_, fun x hx => ⟨?_, ?_, ?_, ?_, ?_⟩, fun t ht => ⟨?_, ?_, ?_, ?_, ?_, ?_, ?_⟩, fun j hj => ⟨?_, ?_, ?_⟩, fun q hq => ⟨?_, ?_, fun x hx => ⟨?_, ?_⟩, fun t ht => ?_⟩⟩
  · exact (pk_un (by omega)).trans (h.1.1)
  · exact (pk_un (by omega)).trans (h.1.2.1)
  · exact (pk_un (by omega)).trans (h.1.2.2.1)
  · exact (pk_un (by omega)).trans (h.1.2.2.2.1)
  · exact (pk_un (by omega)).trans (h.1.2.2.2.2.1)
  · exact (pk_un (by omega)).trans (h.1.2.2.2.2.2.1)
  · exact (pk_un (by omega)).trans (h.1.2.2.2.2.2.2)
  · exact (pk_un (by omega)).trans (h.2.1 k hk)
  · by_cases e : x = x0
    · subst e; rw [pk_us]; exact pk_us.symm
    · exact (pk_un (by omega)).trans (((h.2.2.1 x hx).1).trans (pk_un e).symm)
  · exact (pk_un (by omega)).trans ((h.2.2.1 x hx).2.1)
  · exact (pk_un (by omega)).trans ((h.2.2.1 x hx).2.2.1)
  · exact (pk_un (by omega)).trans ((h.2.2.1 x hx).2.2.2.1)
  · exact (pk_un (by omega)).trans ((h.2.2.1 x hx).2.2.2.2)
  · have ht2 : t < C.2.2.2.2.2.2.1 := ht; exact (pk_un (by omega)).trans ((h.2.2.2.1 t ht).1)
  · have ht2 : t < C.2.2.2.2.2.2.1 := ht; exact (pk_un (by omega)).trans ((h.2.2.2.1 t ht).2.1)
  · have ht2 : t < C.2.2.2.2.2.2.1 := ht; exact (pk_un (by omega)).trans ((h.2.2.2.1 t ht).2.2.1)
  · have ht2 : t < C.2.2.2.2.2.2.1 := ht; exact (pk_un (by omega)).trans ((h.2.2.2.1 t ht).2.2.2.1)
  · have ht2 : t < C.2.2.2.2.2.2.1 := ht; exact (pk_un (by omega)).trans ((h.2.2.2.1 t ht).2.2.2.2.1)
  · have ht2 : t < C.2.2.2.2.2.2.1 := ht; exact (pk_un (by omega)).trans ((h.2.2.2.1 t ht).2.2.2.2.2.1)
  · have ht2 : t < C.2.2.2.2.2.2.1 := ht; exact (pk_un (by omega)).trans ((h.2.2.2.1 t ht).2.2.2.2.2.2)
  · have hj2 : j < C.2.2.2.2.2.2.2.1 := hj; exact (pk_un (by omega)).trans ((h.2.2.2.2.1 j hj).1)
  · have hj2 : j < C.2.2.2.2.2.2.2.1 := hj; exact (pk_un (by omega)).trans ((h.2.2.2.2.1 j hj).2.1)
  · have hj2 : j < C.2.2.2.2.2.2.2.1 := hj; exact (pk_un (by omega)).trans ((h.2.2.2.2.1 j hj).2.2)
  · exact (pk_un (by omega)).trans ((h.2.2.2.2.2 q hq).1)
  · exact (pk_un (by omega)).trans ((h.2.2.2.2.2 q hq).2.1)
  · exact (pk_un (by omega)).trans (((h.2.2.2.2.2 q hq).2.2.1 x hx).1)
  · exact (pk_un (by omega)).trans (((h.2.2.2.2.2 q hq).2.2.1 x hx).2)
  · have ht2 : t < C.2.2.2.2.2.2.1 := ht; exact (pk_un (by omega)).trans ((h.2.2.2.2.2 q hq).2.2.2 t ht)
theorem Rel_wo {b : Nat → Int32} {C : CoV} {tr : Nat → TrV} {Y : YrV} {pc : Nat} {P : Nat → YrV} {x0 : Nat} {v : Int32} (h : Rel b C tr Y pc P) (htc : C.2.2.2.2.2.2.1 ≤ 6) (hdc : C.2.2.2.2.2.2.2.1 ≤ 6) (h0 : x0 < 8) : Rel (upd b (15 + 5 * x0 + 1) (v)) (C.1, C.2.1, C.2.2.1, upd C.2.2.2.1 x0 v, C.2.2.2.2) tr Y pc P := by
  refine ⟨⟨?_, ?_, ?_, ?_, ?_, ?_, ?_⟩, fun k hk => ?_, fun x hx => ⟨?_, ?_, ?_, ?_, ?_⟩, fun t ht => ⟨?_, ?_, ?_, ?_, ?_, ?_, ?_⟩, fun j hj => ⟨?_, ?_, ?_⟩, fun q hq => ⟨?_, ?_, fun x hx => ⟨?_, ?_⟩, fun t ht => ?_⟩⟩
  · exact (pk_un (by omega)).trans (h.1.1)
  · exact (pk_un (by omega)).trans (h.1.2.1)
  · exact (pk_un (by omega)).trans (h.1.2.2.1)
  · exact (pk_un (by omega)).trans (h.1.2.2.2.1)
  · exact (pk_un (by omega)).trans (h.1.2.2.2.2.1)
  · exact (pk_un (by omega)).trans (h.1.2.2.2.2.2.1)
  · exact (pk_un (by omega)).trans (h.1.2.2.2.2.2.2)
  · exact (pk_un (by omega)).trans (h.2.1 k hk)
  · exact (pk_un (by omega)).trans ((h.2.2.1 x hx).1)
  · by_cases e : x = x0
    · subst e; rw [pk_us]; exact pk_us.symm
    · exact (pk_un (by omega)).trans (((h.2.2.1 x hx).2.1).trans (pk_un e).symm)
  · exact (pk_un (by omega)).trans ((h.2.2.1 x hx).2.2.1)
  · exact (pk_un (by omega)).trans ((h.2.2.1 x hx).2.2.2.1)
  · exact (pk_un (by omega)).trans ((h.2.2.1 x hx).2.2.2.2)
  · have ht2 : t < C.2.2.2.2.2.2.1 := ht; exact (pk_un (by omega)).trans ((h.2.2.2.1 t ht).1)
  · have ht2 : t < C.2.2.2.2.2.2.1 := ht; exact (pk_un (by omega)).trans ((h.2.2.2.1 t ht).2.1)
  · have ht2 : t < C.2.2.2.2.2.2.1 := ht; exact (pk_un (by omega)).trans ((h.2.2.2.1 t ht).2.2.1)
  · have ht2 : t < C.2.2.2.2.2.2.1 := ht; exact (pk_un (by omega)).trans ((h.2.2.2.1 t ht).2.2.2.1)
  · have ht2 : t < C.2.2.2.2.2.2.1 := ht; exact (pk_un (by omega)).trans ((h.2.2.2.1 t ht).2.2.2.2.1)
  · have ht2 : t < C.2.2.2.2.2.2.1 := ht; exact (pk_un (by omega)).trans ((h.2.2.2.1 t ht).2.2.2.2.2.1)
  · have ht2 : t < C.2.2.2.2.2.2.1 := ht; exact (pk_un (by omega)).trans ((h.2.2.2.1 t ht).2.2.2.2.2.2)
  · have hj2 : j < C.2.2.2.2.2.2.2.1 := hj; exact (pk_un (by omega)).trans ((h.2.2.2.2.1 j hj).1)
  · have hj2 : j < C.2.2.2.2.2.2.2.1 := hj; exact (pk_un (by omega)).trans ((h.2.2.2.2.1 j hj).2.1)
  · have hj2 : j < C.2.2.2.2.2.2.2.1 := hj; exact (pk_un (by omega)).trans ((h.2.2.2.2.1 j hj).2.2)
  · exact (pk_un (by omega)).trans ((h.2.2.2.2.2 q hq).1)
  · exact (pk_un (by omega)).trans ((h.2.2.2.2.2 q hq).2.1)
  · exact (pk_un (by omega)).trans (((h.2.2.2.2.2 q hq).2.2.1 x hx).1)
  · exact (pk_un (by omega)).trans (((h.2.2.2.2.2 q hq).2.2.1 x hx).2)
  · have ht2 : t < C.2.2.2.2.2.2.1 := ht; exact (pk_un (by omega)).trans ((h.2.2.2.2.2 q hq).2.2.2 t ht)
theorem Rel_tn {b : Nat → Int32} {C : CoV} {tr : Nat → TrV} {Y : YrV} {pc : Nat} {P : Nat → YrV} {x0 : Nat} {v : Int32} (h : Rel b C tr Y pc P) (htc : C.2.2.2.2.2.2.1 ≤ 6) (hdc : C.2.2.2.2.2.2.2.1 ≤ 6) (h0 : x0 < 8) : Rel (upd b (15 + 5 * x0 + 2) (v)) (C.1, C.2.1, C.2.2.1, C.2.2.2.1, upd C.2.2.2.2.1 x0 v, C.2.2.2.2.2) tr Y pc P := by
  refine ⟨⟨?_, ?_, ?_, ?_, ?_, ?_, ?_⟩, fun k hk => ?_, fun x hx => ⟨?_, ?_, ?_, ?_, ?_⟩, fun t ht => ⟨?_, ?_, ?_, ?_, ?_, ?_, ?_⟩, fun j hj => ⟨?_, ?_, ?_⟩, fun q hq => ⟨?_, ?_, fun x hx => ⟨?_, ?_⟩, fun t ht => ?_⟩⟩
  · exact (pk_un (by omega)).trans (h.1.1)
  · exact (pk_un (by omega)).trans (h.1.2.1)
  · exact (pk_un (by omega)).trans (h.1.2.2.1)
  · exact (pk_un (by omega)).trans (h.1.2.2.2.1)
  · exact (pk_un (by omega)).trans (h.1.2.2.2.2.1)
  · exact (pk_un (by omega)).trans (h.1.2.2.2.2.2.1)
  · exact (pk_un (by omega)).trans (h.1.2.2.2.2.2.2)
  · exact (pk_un (by omega)).trans (h.2.1 k hk)
  · exact (pk_un (by omega)).trans ((h.2.2.1 x hx).1)
  · exact (pk_un (by omega)).trans ((h.2.2.1 x hx).2.1)
  · by_cases e : x = x0
    · subst e; rw [pk_us]; exact pk_us.symm
    · exact (pk_un (by omega)).trans (((h.2.2.1 x hx).2.2.1).trans (pk_un e).symm)
  · exact (pk_un (by omega)).trans ((h.2.2.1 x hx).2.2.2.1)
  · exact (pk_un (by omega)).trans ((h.2.2.1 x hx).2.2.2.2)
  · have ht2 : t < C.2.2.2.2.2.2.1 := ht; exact (pk_un (by omega)).trans ((h.2.2.2.1 t ht).1)
  · have ht2 : t < C.2.2.2.2.2.2.1 := ht; exact (pk_un (by omega)).trans ((h.2.2.2.1 t ht).2.1)
  · have ht2 : t < C.2.2.2.2.2.2.1 := ht; exact (pk_un (by omega)).trans ((h.2.2.2.1 t ht).2.2.1)
  · have ht2 : t < C.2.2.2.2.2.2.1 := ht; exact (pk_un (by omega)).trans ((h.2.2.2.1 t ht).2.2.2.1)
  · have ht2 : t < C.2.2.2.2.2.2.1 := ht; exact (pk_un (by omega)).trans ((h.2.2.2.1 t ht).2.2.2.2.1)
  · have ht2 : t < C.2.2.2.2.2.2.1 := ht; exact (pk_un (by omega)).trans ((h.2.2.2.1 t ht).2.2.2.2.2.1)
  · have ht2 : t < C.2.2.2.2.2.2.1 := ht; exact (pk_un (by omega)).trans ((h.2.2.2.1 t ht).2.2.2.2.2.2)
  · have hj2 : j < C.2.2.2.2.2.2.2.1 := hj; exact (pk_un (by omega)).trans ((h.2.2.2.2.1 j hj).1)
  · have hj2 : j < C.2.2.2.2.2.2.2.1 := hj; exact (pk_un (by omega)).trans ((h.2.2.2.2.1 j hj).2.1)
  · have hj2 : j < C.2.2.2.2.2.2.2.1 := hj; exact (pk_un (by omega)).trans ((h.2.2.2.2.1 j hj).2.2)
  · exact (pk_un (by omega)).trans ((h.2.2.2.2.2 q hq).1)
  · exact (pk_un (by omega)).trans ((h.2.2.2.2.2 q hq).2.1)
  · exact (pk_un (by omega)).trans (((h.2.2.2.2.2 q hq).2.2.1 x hx).1)
  · exact (pk_un (by omega)).trans (((h.2.2.2.2.2 q hq).2.2.1 x hx).2)
  · have ht2 : t < C.2.2.2.2.2.2.1 := ht; exact (pk_un (by omega)).trans ((h.2.2.2.2.2 q hq).2.2.2 t ht)
theorem Rel_till {b : Nat → Int32} {C : CoV} {tr : Nat → TrV} {Y : YrV} {pc : Nat} {P : Nat → YrV} {t0 : Nat} {v : Int32} (h : Rel b C tr Y pc P) (htc : C.2.2.2.2.2.2.1 ≤ 6) (hdc : C.2.2.2.2.2.2.2.1 ≤ 6) (h0 : t0 < C.2.2.2.2.2.2.1) : Rel (upd b (55 + 7 * t0 + 4) (v)) C (va_up tr t0 ((tr t0).1, (tr t0).2.1, (tr t0).2.2.1, (tr t0).2.2.2.1, (tr t0).2.2.2.2.1, v, (tr t0).2.2.2.2.2.2.1, (tr t0).2.2.2.2.2.2.2)) Y pc P := by
  refine ⟨⟨?_, ?_, ?_, ?_, ?_, ?_, ?_⟩, fun k hk => ?_, fun x hx => ⟨?_, ?_, ?_, ?_, ?_⟩, fun t ht => ⟨?_, ?_, ?_, ?_, ?_, ?_, ?_⟩, fun j hj => ⟨?_, ?_, ?_⟩, fun q hq => ⟨?_, ?_, fun x hx => ⟨?_, ?_⟩, fun t ht => ?_⟩⟩
  · exact (pk_un (by omega)).trans (h.1.1)
  · exact (pk_un (by omega)).trans (h.1.2.1)
  · exact (pk_un (by omega)).trans (h.1.2.2.1)
  · exact (pk_un (by omega)).trans (h.1.2.2.2.1)
  · exact (pk_un (by omega)).trans (h.1.2.2.2.2.1)
  · exact (pk_un (by omega)).trans (h.1.2.2.2.2.2.1)
  · exact (pk_un (by omega)).trans (h.1.2.2.2.2.2.2)
  · exact (pk_un (by omega)).trans (h.2.1 k hk)
  · exact (pk_un (by omega)).trans ((h.2.2.1 x hx).1)
  · exact (pk_un (by omega)).trans ((h.2.2.1 x hx).2.1)
  · exact (pk_un (by omega)).trans ((h.2.2.1 x hx).2.2.1)
  · exact (pk_un (by omega)).trans ((h.2.2.1 x hx).2.2.2.1)
  · exact (pk_un (by omega)).trans ((h.2.2.1 x hx).2.2.2.2)
  · have ht2 : t < C.2.2.2.2.2.2.1 := ht; have hne := (h.2.2.2.1 t ht).1
    by_cases e : t = t0
    · subst e; rw [va_up_self]; exact (pk_un (by omega)).trans hne
    · rw [va_up_ne _ _ e]; exact (pk_un (by omega)).trans hne
  · have ht2 : t < C.2.2.2.2.2.2.1 := ht; have hne := (h.2.2.2.1 t ht).2.1
    by_cases e : t = t0
    · subst e; rw [va_up_self]; exact (pk_un (by omega)).trans hne
    · rw [va_up_ne _ _ e]; exact (pk_un (by omega)).trans hne
  · have ht2 : t < C.2.2.2.2.2.2.1 := ht; have hne := (h.2.2.2.1 t ht).2.2.1
    by_cases e : t = t0
    · subst e; rw [va_up_self]; exact (pk_un (by omega)).trans hne
    · rw [va_up_ne _ _ e]; exact (pk_un (by omega)).trans hne
  · have ht2 : t < C.2.2.2.2.2.2.1 := ht; have hne := (h.2.2.2.1 t ht).2.2.2.1
    by_cases e : t = t0
    · subst e; rw [va_up_self]; exact (pk_un (by omega)).trans hne
    · rw [va_up_ne _ _ e]; exact (pk_un (by omega)).trans hne
  · have ht2 : t < C.2.2.2.2.2.2.1 := ht; by_cases e : t = t0
    · subst e; rw [va_up_self]; exact pk_us
    · rw [va_up_ne _ _ e]; exact (pk_un (by omega)).trans ((h.2.2.2.1 t ht).2.2.2.2.1)
  · have ht2 : t < C.2.2.2.2.2.2.1 := ht; have hne := (h.2.2.2.1 t ht).2.2.2.2.2.1
    by_cases e : t = t0
    · subst e; rw [va_up_self]; exact (pk_un (by omega)).trans hne
    · rw [va_up_ne _ _ e]; exact (pk_un (by omega)).trans hne
  · have ht2 : t < C.2.2.2.2.2.2.1 := ht; exact (pk_un (by omega)).trans ((h.2.2.2.1 t ht).2.2.2.2.2.2)
  · have hj2 : j < C.2.2.2.2.2.2.2.1 := hj; exact (pk_un (by omega)).trans ((h.2.2.2.2.1 j hj).1)
  · have hj2 : j < C.2.2.2.2.2.2.2.1 := hj; exact (pk_un (by omega)).trans ((h.2.2.2.2.1 j hj).2.1)
  · have hj2 : j < C.2.2.2.2.2.2.2.1 := hj; exact (pk_un (by omega)).trans ((h.2.2.2.2.1 j hj).2.2)
  · exact (pk_un (by omega)).trans ((h.2.2.2.2.2 q hq).1)
  · exact (pk_un (by omega)).trans ((h.2.2.2.2.2 q hq).2.1)
  · exact (pk_un (by omega)).trans (((h.2.2.2.2.2 q hq).2.2.1 x hx).1)
  · exact (pk_un (by omega)).trans (((h.2.2.2.2.2 q hq).2.2.1 x hx).2)
  · have ht2 : t < C.2.2.2.2.2.2.1 := ht; exact (pk_un (by omega)).trans ((h.2.2.2.2.2 q hq).2.2.2 t ht)
theorem Rel_tc0 {b : Nat → Int32} {C : CoV} {tr : Nat → TrV} {Y : YrV} {pc : Nat} {P : Nat → YrV}  (h : Rel b C tr Y pc P) (htc : C.2.2.2.2.2.2.1 ≤ 6) (hdc : C.2.2.2.2.2.2.2.1 ≤ 6)  : Rel (upd b (4) (nI 0)) (coNoTr C) tr (yrNoBr Y) pc P := by
  refine ⟨⟨?_, ?_, ?_, ?_, ?_, ?_, ?_⟩, fun k hk => ?_, fun x hx => ⟨?_, ?_, ?_, ?_, ?_⟩, fun t ht => ⟨?_, ?_, ?_, ?_, ?_, ?_, ?_⟩, fun j hj => ⟨?_, ?_, ?_⟩, fun q hq => ⟨?_, ?_, fun x hx => ⟨?_, ?_⟩, fun t ht => ?_⟩⟩
  · exact (pk_un (by omega)).trans (h.1.1)
  · exact (pk_un (by omega)).trans (h.1.2.1)
  · exact (pk_un (by omega)).trans (h.1.2.2.1)
  · exact (pk_un (by omega)).trans (h.1.2.2.2.1)
  · exact pk_us
  · exact (pk_un (by omega)).trans (h.1.2.2.2.2.2.1)
  · exact (pk_un (by omega)).trans (h.1.2.2.2.2.2.2)
  · exact (pk_un (by omega)).trans (h.2.1 k hk)
  · exact (pk_un (by omega)).trans ((h.2.2.1 x hx).1)
  · exact (pk_un (by omega)).trans ((h.2.2.1 x hx).2.1)
  · exact (pk_un (by omega)).trans ((h.2.2.1 x hx).2.2.1)
  · exact (pk_un (by omega)).trans ((h.2.2.1 x hx).2.2.2.1)
  · exact (pk_un (by omega)).trans ((h.2.2.1 x hx).2.2.2.2)
  · exact absurd ht (Nat.not_lt_zero _)
  · exact absurd ht (Nat.not_lt_zero _)
  · exact absurd ht (Nat.not_lt_zero _)
  · exact absurd ht (Nat.not_lt_zero _)
  · exact absurd ht (Nat.not_lt_zero _)
  · exact absurd ht (Nat.not_lt_zero _)
  · exact absurd ht (Nat.not_lt_zero _)
  · have hj2 : j < C.2.2.2.2.2.2.2.1 := hj; exact (pk_un (by omega)).trans ((h.2.2.2.2.1 j hj).1)
  · have hj2 : j < C.2.2.2.2.2.2.2.1 := hj; exact (pk_un (by omega)).trans ((h.2.2.2.2.1 j hj).2.1)
  · have hj2 : j < C.2.2.2.2.2.2.2.1 := hj; exact (pk_un (by omega)).trans ((h.2.2.2.2.1 j hj).2.2)
  · exact (pk_un (by omega)).trans ((h.2.2.2.2.2 q hq).1)
  · exact (pk_un (by omega)).trans ((h.2.2.2.2.2 q hq).2.1)
  · exact (pk_un (by omega)).trans (((h.2.2.2.2.2 q hq).2.2.1 x hx).1)
  · exact (pk_un (by omega)).trans (((h.2.2.2.2.2 q hq).2.2.1 x hx).2)
  · exact absurd ht (Nat.not_lt_zero _)
theorem Rel_dc0 {b : Nat → Int32} {C : CoV} {tr : Nat → TrV} {Y : YrV} {pc : Nat} {P : Nat → YrV}  (h : Rel b C tr Y pc P) (htc : C.2.2.2.2.2.2.1 ≤ 6) (hdc : C.2.2.2.2.2.2.2.1 ≤ 6)  : Rel (upd b (5) (nI 0)) (coNoTides C) tr Y pc P := by
  refine ⟨⟨?_, ?_, ?_, ?_, ?_, ?_, ?_⟩, fun k hk => ?_, fun x hx => ⟨?_, ?_, ?_, ?_, ?_⟩, fun t ht => ⟨?_, ?_, ?_, ?_, ?_, ?_, ?_⟩, fun j hj => ⟨?_, ?_, ?_⟩, fun q hq => ⟨?_, ?_, fun x hx => ⟨?_, ?_⟩, fun t ht => ?_⟩⟩
  · exact (pk_un (by omega)).trans (h.1.1)
  · exact (pk_un (by omega)).trans (h.1.2.1)
  · exact (pk_un (by omega)).trans (h.1.2.2.1)
  · exact (pk_un (by omega)).trans (h.1.2.2.2.1)
  · exact (pk_un (by omega)).trans (h.1.2.2.2.2.1)
  · exact pk_us
  · exact (pk_un (by omega)).trans (h.1.2.2.2.2.2.2)
  · exact (pk_un (by omega)).trans (h.2.1 k hk)
  · exact (pk_un (by omega)).trans ((h.2.2.1 x hx).1)
  · exact (pk_un (by omega)).trans ((h.2.2.1 x hx).2.1)
  · exact (pk_un (by omega)).trans ((h.2.2.1 x hx).2.2.1)
  · exact (pk_un (by omega)).trans ((h.2.2.1 x hx).2.2.2.1)
  · exact (pk_un (by omega)).trans ((h.2.2.1 x hx).2.2.2.2)
  · have ht2 : t < C.2.2.2.2.2.2.1 := ht; exact (pk_un (by omega)).trans ((h.2.2.2.1 t ht).1)
  · have ht2 : t < C.2.2.2.2.2.2.1 := ht; exact (pk_un (by omega)).trans ((h.2.2.2.1 t ht).2.1)
  · have ht2 : t < C.2.2.2.2.2.2.1 := ht; exact (pk_un (by omega)).trans ((h.2.2.2.1 t ht).2.2.1)
  · have ht2 : t < C.2.2.2.2.2.2.1 := ht; exact (pk_un (by omega)).trans ((h.2.2.2.1 t ht).2.2.2.1)
  · have ht2 : t < C.2.2.2.2.2.2.1 := ht; exact (pk_un (by omega)).trans ((h.2.2.2.1 t ht).2.2.2.2.1)
  · have ht2 : t < C.2.2.2.2.2.2.1 := ht; exact (pk_un (by omega)).trans ((h.2.2.2.1 t ht).2.2.2.2.2.1)
  · have ht2 : t < C.2.2.2.2.2.2.1 := ht; exact (pk_un (by omega)).trans ((h.2.2.2.1 t ht).2.2.2.2.2.2)
  · exact absurd hj (Nat.not_lt_zero _)
  · exact absurd hj (Nat.not_lt_zero _)
  · exact absurd hj (Nat.not_lt_zero _)
  · exact (pk_un (by omega)).trans ((h.2.2.2.2.2 q hq).1)
  · exact (pk_un (by omega)).trans ((h.2.2.2.2.2 q hq).2.1)
  · exact (pk_un (by omega)).trans (((h.2.2.2.2.2 q hq).2.2.1 x hx).1)
  · exact (pk_un (by omega)).trans (((h.2.2.2.2.2 q hq).2.2.1 x hx).2)
  · have ht2 : t < C.2.2.2.2.2.2.1 := ht; exact (pk_un (by omega)).trans ((h.2.2.2.2.2 q hq).2.2.2 t ht)
theorem Rel_dO {b : Nat → Int32} {C : CoV} {tr : Nat → TrV} {Y : YrV} {pc : Nat} {P : Nat → YrV} {j0 w0 : Nat} {v : Int32} (h : Rel b C tr Y pc P) (htc : C.2.2.2.2.2.2.1 ≤ 6) (hdc : C.2.2.2.2.2.2.2.1 ≤ 6) (h0 : C.2.2.2.2.2.2.2.1 ≤ j0 ∧ j0 < 6 ∧ w0 < 3) : Rel (upd b (97 + 3 * j0 + w0) (v)) C tr Y pc P := by
  refine ⟨⟨?_, ?_, ?_, ?_, ?_, ?_, ?_⟩, fun k hk => ?_, fun x hx => ⟨?_, ?_, ?_, ?_, ?_⟩, fun t ht => ⟨?_, ?_, ?_, ?_, ?_, ?_, ?_⟩, fun j hj => ⟨?_, ?_, ?_⟩, fun q hq => ⟨?_, ?_, fun x hx => ⟨?_, ?_⟩, fun t ht => ?_⟩⟩
  · exact (pk_un (by omega)).trans (h.1.1)
  · exact (pk_un (by omega)).trans (h.1.2.1)
  · exact (pk_un (by omega)).trans (h.1.2.2.1)
  · exact (pk_un (by omega)).trans (h.1.2.2.2.1)
  · exact (pk_un (by omega)).trans (h.1.2.2.2.2.1)
  · exact (pk_un (by omega)).trans (h.1.2.2.2.2.2.1)
  · exact (pk_un (by omega)).trans (h.1.2.2.2.2.2.2)
  · exact (pk_un (by omega)).trans (h.2.1 k hk)
  · exact (pk_un (by omega)).trans ((h.2.2.1 x hx).1)
  · exact (pk_un (by omega)).trans ((h.2.2.1 x hx).2.1)
  · exact (pk_un (by omega)).trans ((h.2.2.1 x hx).2.2.1)
  · exact (pk_un (by omega)).trans ((h.2.2.1 x hx).2.2.2.1)
  · exact (pk_un (by omega)).trans ((h.2.2.1 x hx).2.2.2.2)
  · have ht2 : t < C.2.2.2.2.2.2.1 := ht; exact (pk_un (by omega)).trans ((h.2.2.2.1 t ht).1)
  · have ht2 : t < C.2.2.2.2.2.2.1 := ht; exact (pk_un (by omega)).trans ((h.2.2.2.1 t ht).2.1)
  · have ht2 : t < C.2.2.2.2.2.2.1 := ht; exact (pk_un (by omega)).trans ((h.2.2.2.1 t ht).2.2.1)
  · have ht2 : t < C.2.2.2.2.2.2.1 := ht; exact (pk_un (by omega)).trans ((h.2.2.2.1 t ht).2.2.2.1)
  · have ht2 : t < C.2.2.2.2.2.2.1 := ht; exact (pk_un (by omega)).trans ((h.2.2.2.1 t ht).2.2.2.2.1)
  · have ht2 : t < C.2.2.2.2.2.2.1 := ht; exact (pk_un (by omega)).trans ((h.2.2.2.1 t ht).2.2.2.2.2.1)
  · have ht2 : t < C.2.2.2.2.2.2.1 := ht; exact (pk_un (by omega)).trans ((h.2.2.2.1 t ht).2.2.2.2.2.2)
  · have hj2 : j < C.2.2.2.2.2.2.2.1 := hj; exact (pk_un (by omega)).trans ((h.2.2.2.2.1 j hj).1)
  · have hj2 : j < C.2.2.2.2.2.2.2.1 := hj; exact (pk_un (by omega)).trans ((h.2.2.2.2.1 j hj).2.1)
  · have hj2 : j < C.2.2.2.2.2.2.2.1 := hj; exact (pk_un (by omega)).trans ((h.2.2.2.2.1 j hj).2.2)
  · exact (pk_un (by omega)).trans ((h.2.2.2.2.2 q hq).1)
  · exact (pk_un (by omega)).trans ((h.2.2.2.2.2 q hq).2.1)
  · exact (pk_un (by omega)).trans (((h.2.2.2.2.2 q hq).2.2.1 x hx).1)
  · exact (pk_un (by omega)).trans (((h.2.2.2.2.2 q hq).2.2.1 x hx).2)
  · have ht2 : t < C.2.2.2.2.2.2.1 := ht; exact (pk_un (by omega)).trans ((h.2.2.2.2.2 q hq).2.2.2 t ht)
theorem Rel_tO {b : Nat → Int32} {C : CoV} {tr : Nat → TrV} {Y : YrV} {pc : Nat} {P : Nat → YrV} {j0 w0 : Nat} {v : Int32} (h : Rel b C tr Y pc P) (htc : C.2.2.2.2.2.2.1 ≤ 6) (hdc : C.2.2.2.2.2.2.2.1 ≤ 6) (h0 : C.2.2.2.2.2.2.1 ≤ j0 ∧ j0 < 6 ∧ w0 < 7) : Rel (upd b (55 + 7 * j0 + w0) (v)) C tr Y pc P := by
  refine ⟨⟨?_, ?_, ?_, ?_, ?_, ?_, ?_⟩, fun k hk => ?_, fun x hx => ⟨?_, ?_, ?_, ?_, ?_⟩, fun t ht => ⟨?_, ?_, ?_, ?_, ?_, ?_, ?_⟩, fun j hj => ⟨?_, ?_, ?_⟩, fun q hq => ⟨?_, ?_, fun x hx => ⟨?_, ?_⟩, fun t ht => ?_⟩⟩
  · exact (pk_un (by omega)).trans (h.1.1)
  · exact (pk_un (by omega)).trans (h.1.2.1)
  · exact (pk_un (by omega)).trans (h.1.2.2.1)
  · exact (pk_un (by omega)).trans (h.1.2.2.2.1)
  · exact (pk_un (by omega)).trans (h.1.2.2.2.2.1)
  · exact (pk_un (by omega)).trans (h.1.2.2.2.2.2.1)
  · exact (pk_un (by omega)).trans (h.1.2.2.2.2.2.2)
  · exact (pk_un (by omega)).trans (h.2.1 k hk)
  · exact (pk_un (by omega)).trans ((h.2.2.1 x hx).1)
  · exact (pk_un (by omega)).trans ((h.2.2.1 x hx).2.1)
  · exact (pk_un (by omega)).trans ((h.2.2.1 x hx).2.2.1)
  · exact (pk_un (by omega)).trans ((h.2.2.1 x hx).2.2.2.1)
  · exact (pk_un (by omega)).trans ((h.2.2.1 x hx).2.2.2.2)
  · have ht2 : t < C.2.2.2.2.2.2.1 := ht; exact (pk_un (by omega)).trans ((h.2.2.2.1 t ht).1)
  · have ht2 : t < C.2.2.2.2.2.2.1 := ht; exact (pk_un (by omega)).trans ((h.2.2.2.1 t ht).2.1)
  · have ht2 : t < C.2.2.2.2.2.2.1 := ht; exact (pk_un (by omega)).trans ((h.2.2.2.1 t ht).2.2.1)
  · have ht2 : t < C.2.2.2.2.2.2.1 := ht; exact (pk_un (by omega)).trans ((h.2.2.2.1 t ht).2.2.2.1)
  · have ht2 : t < C.2.2.2.2.2.2.1 := ht; exact (pk_un (by omega)).trans ((h.2.2.2.1 t ht).2.2.2.2.1)
  · have ht2 : t < C.2.2.2.2.2.2.1 := ht; exact (pk_un (by omega)).trans ((h.2.2.2.1 t ht).2.2.2.2.2.1)
  · have ht2 : t < C.2.2.2.2.2.2.1 := ht; exact (pk_un (by omega)).trans ((h.2.2.2.1 t ht).2.2.2.2.2.2)
  · have hj2 : j < C.2.2.2.2.2.2.2.1 := hj; exact (pk_un (by omega)).trans ((h.2.2.2.2.1 j hj).1)
  · have hj2 : j < C.2.2.2.2.2.2.2.1 := hj; exact (pk_un (by omega)).trans ((h.2.2.2.2.1 j hj).2.1)
  · have hj2 : j < C.2.2.2.2.2.2.2.1 := hj; exact (pk_un (by omega)).trans ((h.2.2.2.2.1 j hj).2.2)
  · exact (pk_un (by omega)).trans ((h.2.2.2.2.2 q hq).1)
  · exact (pk_un (by omega)).trans ((h.2.2.2.2.2 q hq).2.1)
  · exact (pk_un (by omega)).trans (((h.2.2.2.2.2 q hq).2.2.1 x hx).1)
  · exact (pk_un (by omega)).trans (((h.2.2.2.2.2 q hq).2.2.1 x hx).2)
  · have ht2 : t < C.2.2.2.2.2.2.1 := ht; exact (pk_un (by omega)).trans ((h.2.2.2.2.2 q hq).2.2.2 t ht)
theorem Rel_dc1 {b : Nat → Int32} {C : CoV} {tr : Nat → TrV} {Y : YrV} {pc : Nat} {P : Nat → YrV} {a d z : Int32} (h : Rel b C tr Y pc P) (htc : C.2.2.2.2.2.2.1 ≤ 6) (hdc : C.2.2.2.2.2.2.2.1 ≤ 6) (hd : C.2.2.2.2.2.2.2.1 < 6) (e0 : b (97 + 3 * C.2.2.2.2.2.2.2.1) = a) (e1 : b (97 + 3 * C.2.2.2.2.2.2.2.1 + 1) = d) (e2 : b (97 + 3 * C.2.2.2.2.2.2.2.1 + 2) = z) : Rel (upd b (5) (nI (C.2.2.2.2.2.2.2.1 + 1))) (C.1, C.2.1, C.2.2.1, C.2.2.2.1, C.2.2.2.2.1, C.2.2.2.2.2.1, C.2.2.2.2.2.2.1, C.2.2.2.2.2.2.2.1 + 1, upd C.2.2.2.2.2.2.2.2.1 C.2.2.2.2.2.2.2.1 a, upd C.2.2.2.2.2.2.2.2.2.1 C.2.2.2.2.2.2.2.1 d, upd C.2.2.2.2.2.2.2.2.2.2 C.2.2.2.2.2.2.2.1 z) tr Y pc P := by
  refine ⟨⟨?_, ?_, ?_, ?_, ?_, ?_, ?_⟩, fun k hk => ?_, fun x hx => ⟨?_, ?_, ?_, ?_, ?_⟩, fun t ht => ⟨?_, ?_, ?_, ?_, ?_, ?_, ?_⟩, fun j hj => ⟨?_, ?_, ?_⟩, fun q hq => ⟨?_, ?_, fun x hx => ⟨?_, ?_⟩, fun t ht => ?_⟩⟩
  · exact (pk_un (by omega)).trans (h.1.1)
  · exact (pk_un (by omega)).trans (h.1.2.1)
  · exact (pk_un (by omega)).trans (h.1.2.2.1)
  · exact (pk_un (by omega)).trans (h.1.2.2.2.1)
  · exact (pk_un (by omega)).trans (h.1.2.2.2.2.1)
  · exact pk_us
  · exact (pk_un (by omega)).trans (h.1.2.2.2.2.2.2)
  · exact (pk_un (by omega)).trans (h.2.1 k hk)
  · exact (pk_un (by omega)).trans ((h.2.2.1 x hx).1)
  · exact (pk_un (by omega)).trans ((h.2.2.1 x hx).2.1)
  · exact (pk_un (by omega)).trans ((h.2.2.1 x hx).2.2.1)
  · exact (pk_un (by omega)).trans ((h.2.2.1 x hx).2.2.2.1)
  · exact (pk_un (by omega)).trans ((h.2.2.1 x hx).2.2.2.2)
  · have ht2 : t < C.2.2.2.2.2.2.1 := ht; exact (pk_un (by omega)).trans ((h.2.2.2.1 t ht).1)
  · have ht2 : t < C.2.2.2.2.2.2.1 := ht; exact (pk_un (by omega)).trans ((h.2.2.2.1 t ht).2.1)
  · have ht2 : t < C.2.2.2.2.2.2.1 := ht; exact (pk_un (by omega)).trans ((h.2.2.2.1 t ht).2.2.1)
  · have ht2 : t < C.2.2.2.2.2.2.1 := ht; exact (pk_un (by omega)).trans ((h.2.2.2.1 t ht).2.2.2.1)
  · have ht2 : t < C.2.2.2.2.2.2.1 := ht; exact (pk_un (by omega)).trans ((h.2.2.2.1 t ht).2.2.2.2.1)
  · have ht2 : t < C.2.2.2.2.2.2.1 := ht; exact (pk_un (by omega)).trans ((h.2.2.2.1 t ht).2.2.2.2.2.1)
  · have ht2 : t < C.2.2.2.2.2.2.1 := ht; exact (pk_un (by omega)).trans ((h.2.2.2.1 t ht).2.2.2.2.2.2)
  · have hj2 : j < C.2.2.2.2.2.2.2.1 + 1 := hj
    by_cases e : j = C.2.2.2.2.2.2.2.1
    · subst e; exact (pk_un (by omega)).trans (e0.trans pk_us.symm)
    · exact (pk_un (by omega)).trans (((h.2.2.2.2.1 j (show j < C.2.2.2.2.2.2.2.1 by omega)).1).trans (pk_un e).symm)
  · have hj2 : j < C.2.2.2.2.2.2.2.1 + 1 := hj
    by_cases e : j = C.2.2.2.2.2.2.2.1
    · subst e; exact (pk_un (by omega)).trans (e1.trans pk_us.symm)
    · exact (pk_un (by omega)).trans (((h.2.2.2.2.1 j (show j < C.2.2.2.2.2.2.2.1 by omega)).2.1).trans (pk_un e).symm)
  · have hj2 : j < C.2.2.2.2.2.2.2.1 + 1 := hj
    by_cases e : j = C.2.2.2.2.2.2.2.1
    · subst e; exact (pk_un (by omega)).trans (e2.trans pk_us.symm)
    · exact (pk_un (by omega)).trans (((h.2.2.2.2.1 j (show j < C.2.2.2.2.2.2.2.1 by omega)).2.2).trans (pk_un e).symm)
  · exact (pk_un (by omega)).trans ((h.2.2.2.2.2 q hq).1)
  · exact (pk_un (by omega)).trans ((h.2.2.2.2.2 q hq).2.1)
  · exact (pk_un (by omega)).trans (((h.2.2.2.2.2 q hq).2.2.1 x hx).1)
  · exact (pk_un (by omega)).trans (((h.2.2.2.2.2 q hq).2.2.1 x hx).2)
  · have ht2 : t < C.2.2.2.2.2.2.1 := ht; exact (pk_un (by omega)).trans ((h.2.2.2.2.2 q hq).2.2.2 t ht)
theorem Rel_tc1 {b : Nat → Int32} {C : CoV} {tr : Nat → TrV} {Y : YrV} {pc : Nat} {P : Nat → YrV} {T : TrV} (h : Rel b C tr Y pc P) (htc : C.2.2.2.2.2.2.1 ≤ 6) (hdc : C.2.2.2.2.2.2.2.1 ≤ 6) (hp : pc = 0) (hd : C.2.2.2.2.2.2.1 < 6) (e0 : b (55 + 7 * C.2.2.2.2.2.2.1 + 0) = nI T.1) (e1 : b (55 + 7 * C.2.2.2.2.2.2.1 + 1) = T.2.2.1) (e2 : b (55 + 7 * C.2.2.2.2.2.2.1 + 2) = T.2.2.2.1) (e3 : b (55 + 7 * C.2.2.2.2.2.2.1 + 3) = T.2.2.2.2.1) (e4 : b (55 + 7 * C.2.2.2.2.2.2.1 + 4) = T.2.2.2.2.2.1) (e5 : b (55 + 7 * C.2.2.2.2.2.2.1 + 5) = T.2.2.2.2.2.2.1) (e6 : b (55 + 7 * C.2.2.2.2.2.2.1 + 6) = bI (yrBr Y C.2.2.2.2.2.2.1)) : Rel (upd b (4) (nI (C.2.2.2.2.2.2.1 + 1))) (C.1, C.2.1, C.2.2.1, C.2.2.2.1, C.2.2.2.2.1, C.2.2.2.2.2.1, C.2.2.2.2.2.2.1 + 1, C.2.2.2.2.2.2.2) (va_up tr C.2.2.2.2.2.2.1 T) Y pc P := by
  refine ⟨⟨?_, ?_, ?_, ?_, ?_, ?_, ?_⟩, fun k hk => ?_, fun x hx => ⟨?_, ?_, ?_, ?_, ?_⟩, fun t ht => ⟨?_, ?_, ?_, ?_, ?_, ?_, ?_⟩, fun j hj => ⟨?_, ?_, ?_⟩, fun q hq => ⟨?_, ?_, fun x hx => ⟨?_, ?_⟩, fun t ht => ?_⟩⟩
  · exact (pk_un (by omega)).trans (h.1.1)
  · exact (pk_un (by omega)).trans (h.1.2.1)
  · exact (pk_un (by omega)).trans (h.1.2.2.1)
  · exact (pk_un (by omega)).trans (h.1.2.2.2.1)
  · exact pk_us
  · exact (pk_un (by omega)).trans (h.1.2.2.2.2.2.1)
  · exact (pk_un (by omega)).trans (h.1.2.2.2.2.2.2)
  · exact (pk_un (by omega)).trans (h.2.1 k hk)
  · exact (pk_un (by omega)).trans ((h.2.2.1 x hx).1)
  · exact (pk_un (by omega)).trans ((h.2.2.1 x hx).2.1)
  · exact (pk_un (by omega)).trans ((h.2.2.1 x hx).2.2.1)
  · exact (pk_un (by omega)).trans ((h.2.2.1 x hx).2.2.2.1)
  · exact (pk_un (by omega)).trans ((h.2.2.1 x hx).2.2.2.2)
  · have ht2 : t < C.2.2.2.2.2.2.1 + 1 := ht
    by_cases e : t = C.2.2.2.2.2.2.1
    · subst e; rw [va_up_self]; exact (pk_un (by omega)).trans e0
    · rw [va_up_ne _ _ e]; exact (pk_un (by omega)).trans ((h.2.2.2.1 t (show t < C.2.2.2.2.2.2.1 by omega)).1)
  · have ht2 : t < C.2.2.2.2.2.2.1 + 1 := ht
    by_cases e : t = C.2.2.2.2.2.2.1
    · subst e; rw [va_up_self]; exact (pk_un (by omega)).trans e1
    · rw [va_up_ne _ _ e]; exact (pk_un (by omega)).trans ((h.2.2.2.1 t (show t < C.2.2.2.2.2.2.1 by omega)).2.1)
  · have ht2 : t < C.2.2.2.2.2.2.1 + 1 := ht
    by_cases e : t = C.2.2.2.2.2.2.1
    · subst e; rw [va_up_self]; exact (pk_un (by omega)).trans e2
    · rw [va_up_ne _ _ e]; exact (pk_un (by omega)).trans ((h.2.2.2.1 t (show t < C.2.2.2.2.2.2.1 by omega)).2.2.1)
  · have ht2 : t < C.2.2.2.2.2.2.1 + 1 := ht
    by_cases e : t = C.2.2.2.2.2.2.1
    · subst e; rw [va_up_self]; exact (pk_un (by omega)).trans e3
    · rw [va_up_ne _ _ e]; exact (pk_un (by omega)).trans ((h.2.2.2.1 t (show t < C.2.2.2.2.2.2.1 by omega)).2.2.2.1)
  · have ht2 : t < C.2.2.2.2.2.2.1 + 1 := ht
    by_cases e : t = C.2.2.2.2.2.2.1
    · subst e; rw [va_up_self]; exact (pk_un (by omega)).trans e4
    · rw [va_up_ne _ _ e]; exact (pk_un (by omega)).trans ((h.2.2.2.1 t (show t < C.2.2.2.2.2.2.1 by omega)).2.2.2.2.1)
  · have ht2 : t < C.2.2.2.2.2.2.1 + 1 := ht
    by_cases e : t = C.2.2.2.2.2.2.1
    · subst e; rw [va_up_self]; exact (pk_un (by omega)).trans e5
    · rw [va_up_ne _ _ e]; exact (pk_un (by omega)).trans ((h.2.2.2.1 t (show t < C.2.2.2.2.2.2.1 by omega)).2.2.2.2.2.1)
  · have ht2 : t < C.2.2.2.2.2.2.1 + 1 := ht
    by_cases e : t = C.2.2.2.2.2.2.1
    · subst e; exact (pk_un (by omega)).trans e6
    · exact (pk_un (by omega)).trans ((h.2.2.2.1 t (show t < C.2.2.2.2.2.2.1 by omega)).2.2.2.2.2.2)
  · have hj2 : j < C.2.2.2.2.2.2.2.1 := hj; exact (pk_un (by omega)).trans ((h.2.2.2.2.1 j hj).1)
  · have hj2 : j < C.2.2.2.2.2.2.2.1 := hj; exact (pk_un (by omega)).trans ((h.2.2.2.2.1 j hj).2.1)
  · have hj2 : j < C.2.2.2.2.2.2.2.1 := hj; exact (pk_un (by omega)).trans ((h.2.2.2.2.1 j hj).2.2)
  · exact (pk_un (by omega)).trans ((h.2.2.2.2.2 q hq).1)
  · exact (pk_un (by omega)).trans ((h.2.2.2.2.2 q hq).2.1)
  · exact (pk_un (by omega)).trans (((h.2.2.2.2.2 q hq).2.2.1 x hx).1)
  · exact (pk_un (by omega)).trans (((h.2.2.2.2.2 q hq).2.2.1 x hx).2)
  · exact absurd hq (by omega)
