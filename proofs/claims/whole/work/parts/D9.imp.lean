/-! cells in another order; a book that is alike where it is read -/
section PRM
theorem vp_perm {D : va_G} {cl : List vw_C} {ws ws' : va_W} {H : Heap} (h : va_P D cl ws H) (hp : ws.Perm ws') : va_P D cl ws' H := by
  intro k q hk
  have hm : q ∈ ws := hp.symm.subset (List.mem_of_getElem? hk)
  obtain ⟨i, hi⟩ := List.mem_iff_getElem?.mp hm
  exact h i q hi
theorem vd_pw {A : Nat → Prop} {ws : va_W} (h : va_D A ws) : ws.Pairwise (fun p q => p.1 ≠ q.1) := by
  rw [List.pairwise_iff_getElem]
  intro i j hi hj hij e
  have := h.1 i j _ _ (List.getElem?_eq_getElem hi) (List.getElem?_eq_getElem hj) e
  omega
theorem vd_of {A : Nat → Prop} {ws : va_W} (hp : ws.Pairwise (fun p q => p.1 ≠ q.1)) (ha : ∀ q ∈ ws, A q.1) : va_D A ws := by
  rw [List.pairwise_iff_getElem] at hp
  refine ⟨fun i j p q hi hj e => ?_, fun k q hk => ha q (List.mem_of_getElem? hk)⟩
  obtain ⟨hi', rfl⟩ := List.getElem?_eq_some_iff.mp hi
  obtain ⟨hj', rfl⟩ := List.getElem?_eq_some_iff.mp hj
  by_cases h1 : i < j
  · exact absurd e (hp i j hi' hj' h1)
  · by_cases h2 : j < i
    · exact absurd e.symm (hp j i hj' hi' h2)
    · omega
theorem vd_perm {A : Nat → Prop} {ws ws' : va_W} (h : va_D A ws) (hp : ws.Perm ws') : va_D A ws' := by
  refine vd_of ((List.Perm.pairwise_iff (fun {x y} q => Ne.symm q) hp).mp (vd_pw h)) (fun q hq => ?_)
  obtain ⟨i, hi⟩ := List.mem_iff_getElem?.mp (hp.symm.subset hq)
  exact h.2 i q hi
theorem bP_pm {Γ : GG} {bs bs' : BW} {H : Heap} (h : bP Γ bs H) (hp : bs.flatten.Perm bs'.flatten) : bP Γ bs' H := vp_perm h hp
theorem bD_pm {A : Nat → Prop} {bs bs' : BW} (h : bD A bs) (hp : bs.flatten.Perm bs'.flatten) : bD A bs' := vd_perm h hp
/-- what a call made beside a row is taken apart from it -/
theorem pm_new (pre mid post : BW) (a b : va_W) : (pre ++ ([a ++ b] ++ (mid ++ ([[]] ++ post)))).flatten.Perm (pre ++ ([a] ++ (mid ++ ([b] ++ post)))).flatten := by
  simp only [List.flatten_append, List.flatten_cons, List.flatten_nil, List.append_nil, List.nil_append, List.append_assoc]
  refine List.Perm.append_left _ (List.Perm.append_left _ ?_)
  rw [← List.append_assoc, ← List.append_assoc]
  exact List.Perm.append_right _ List.perm_append_comm
/-- a flattened block is opened, and closed -/
theorem fl_mid {pre bs post : BW} : (pre ++ ([bs.flatten] ++ post)).flatten = (pre ++ (bs ++ post)).flatten := by simp
theorem bP_op {Γ : GG} (pre bs post : BW) {H : Heap} (h : bP Γ (pre ++ ([bs.flatten] ++ post)) H) : bP Γ (pre ++ (bs ++ post)) H := by
  show va_P _ _ (pre ++ (bs ++ post)).flatten _
  rw [← fl_mid]; exact h
theorem bD_op {A : Nat → Prop} (pre bs post : BW) (h : bD A (pre ++ ([bs.flatten] ++ post))) : bD A (pre ++ (bs ++ post)) := by
  show va_D _ (pre ++ (bs ++ post)).flatten
  rw [← fl_mid]; exact h
theorem bP_cl {Γ : GG} (pre bs post : BW) {H : Heap} (h : bP Γ (pre ++ (bs ++ post)) H) : bP Γ (pre ++ ([bs.flatten] ++ post)) H := by
  show va_P _ _ (pre ++ ([bs.flatten] ++ post)).flatten _
  rw [fl_mid]; exact h
theorem bD_cl {A : Nat → Prop} (pre bs post : BW) (h : bD A (pre ++ (bs ++ post))) : bD A (pre ++ ([bs.flatten] ++ post)) := by
  show va_D _ (pre ++ ([bs.flatten] ++ post)).flatten
  rw [fl_mid]; exact h
theorem bs1_fl {Γ : GG} {r : va_W} {s c y : Nat → Nat} {p : Nat → Nat → Nat} {k : Nat → Nat} {pc : Nat} {C : CoV} {tr : Nat → TrV} {Y : YrV} {P : Nat → YrV} :
    r ++ bSt Γ s c y p pc ++ bCo Γ c k C ++ bTs Γ c k tr ++ bYr Γ y Y ++ bYr Γ (p 0) (P 0) ++ bYr Γ (p 1) (P 1) ++ bYr Γ (p 2) (P 2) ++ bYr Γ (p 3) (P 3) ++ bYr Γ (p 4) (P 4) ++ bYr Γ (p 5) (P 5) = r ++ (bS1 Γ s c y p k pc C tr Y P).flatten := by
  simp only [bS1, List.flatten_cons, List.flatten_nil, List.append_nil, List.append_assoc]
end PRM
section IMS
variable {b b' : Nat → Int32} {C E : CoV} {tr T : Nat → TrV} {Y Z : YrV} {pc : Nat} {P Q : Nat → YrV}
theorem rel_eq (h : Rel b C tr Y pc P) (htc : C.2.2.2.2.2.2.1 ≤ 6) (hdc : C.2.2.2.2.2.2.2.1 ≤ 6) (hpc : pc ≤ 6) (e : ∀ q, q < 259 → b' q = b q) : Rel b' C tr Y pc P := by
  obtain ⟨⟨h0, h1, h2, h3, h4, h5, h6⟩, hw, hc, ht, hd, hp⟩ := h
  refine ⟨⟨(e _ (by omega)).trans h0, (e _ (by omega)).trans h1, (e _ (by omega)).trans h2, (e _ (by omega)).trans h3, (e _ (by omega)).trans h4, (e _ (by omega)).trans h5, (e _ (by omega)).trans h6⟩, fun k hk => (e _ (by omega)).trans (hw k hk), fun x hx => ?_, fun t ht' => ?_, fun j hj => ?_, fun q hq => ?_⟩
  · obtain ⟨a1, a2, a3, a4, a5⟩ := hc x hx
    exact ⟨(e _ (by omega)).trans a1, (e _ (by omega)).trans a2, (e _ (by omega)).trans a3, (e _ (by omega)).trans a4, (e _ (by omega)).trans a5⟩
  · obtain ⟨a1, a2, a3, a4, a5, a6, a7⟩ := ht t ht'
    have ht2 : t < C.2.2.2.2.2.2.1 := ht'
    exact ⟨(e _ (by omega)).trans a1, (e _ (by omega)).trans a2, (e _ (by omega)).trans a3, (e _ (by omega)).trans a4, (e _ (by omega)).trans a5, (e _ (by omega)).trans a6, (e _ (by omega)).trans a7⟩
  · obtain ⟨a1, a2, a3⟩ := hd j hj
    have hj2 : j < C.2.2.2.2.2.2.2.1 := hj
    exact ⟨(e _ (by omega)).trans a1, (e _ (by omega)).trans a2, (e _ (by omega)).trans a3⟩
  · obtain ⟨a1, a2, a3, a4⟩ := hp q hq
    exact ⟨(e _ (by omega)).trans a1, (e _ (by omega)).trans a2, fun x hx => ⟨(e _ (by omega)).trans (a3 x hx).1, (e _ (by omega)).trans (a3 x hx).2⟩, fun t ht' => by
      have ht2 : t < C.2.2.2.2.2.2.1 := ht'
      exact (e _ (by omega)).trans (a4 t ht')⟩
theorem jp_re (hJ : JP C tr Y pc P) (h : Rel b C tr Y pc P) (e : ∀ q, q < 259 → b' q = b q) : Rel b' C tr Y pc P := rel_eq h (inv_tc hJ.1.1) (inv_dc hJ.1.1) hJ.2.1 e
variable {Γ : GG} {k : Nat → Nat} {j : Nat} {f f' : Nat → Option Nat} {kp kp' im im' : Nat → Int32} {I : va_W} {s d z : Nat → Nat} {p : Nat → Nat → Nat}
theorem img_set (hJ : JP C tr Y pc P) (hr : Rel b C tr Y pc P) (hf : f' j = some (s 0)) (hk : kp' j = nI 1) (hb : ∀ q, q < 259 → im' (259 * j + q) = b q) : IMG Γ k j f' kp' im' (List.flatten (bS1 Γ s d z p k pc C tr Y P)) :=
  Or.inr ⟨s, d, z, p, pc, C, tr, Y, P, hf, by rw [hk]; decide, rfl, hJ, jp_re hJ hr hb⟩
theorem img_keep (h : IMG Γ k j f kp im I) (hf : f' j = f j) (hk : kp' j = kp j) (hi : ∀ q, q < 259 → im' (259 * j + q) = im (259 * j + q)) : IMG Γ k j f' kp' im' I := by
  rcases h with ⟨h1, h2, h3⟩ | ⟨s, d, z, p, pc, E, T, Z, P, h1, h2, h3, h4, h5⟩
  · exact Or.inl ⟨hf.trans h1, hk.trans h2, h3⟩
  · exact Or.inr ⟨s, d, z, p, pc, E, T, Z, P, hf.trans h1, by rw [hk]; exact h2, h3, h4, jp_re h4 h5 hi⟩
theorem jp_rd {C' : CoV} {tr' : Nat → TrV} {Y' : YrV} {pc' : Nat} (h : JP C tr Y pc P) (hA : IA C' tr' Y') (e : (pc' = pc ∧ (C', tr', Y') = (C, tr, Y)) ∨ pc' = 0) : JP C' tr' Y' pc' P := by
  rcases e with ⟨rfl, e⟩ | rfl
  · cases e; exact h
  · exact ⟨hA, by omega, fun q hq => absurd hq (Nat.not_lt_zero _)⟩
end IMS
