theorem ty_meet {L : ScV} {M : MoV} {g f : Nat → Int32} {V : V3} {a : Int32} {u : MoV × (Nat → Int32) × (Nat → Int32)} (hM : M.1 = false) (hLM : L.1 = M.2.1) (hL0 : L.1 ≤ 150) (hg : L.2.2.2.2.1 = g) (hF : FV f V) (h : u = (if wi a 0 127 = true then (if M.2.1 < 150 then ((M.1, M.2.1 + 1, M.2.2), upd g M.2.1 a, f) else (M, g, moRef M f 2)) else (M, g, moRef M f 0))) : (u.1.1 = false ∧ (tyS L a).1 = u.1.2.1 ∧ (tyS L a).1 ≤ 150 ∧ (tyS L a).2.2.2.2.1 = u.2.1) ∧ FV u.2.2 (toldV V (tyR L a)) := by
  by_cases h1 : wi a 0 127 = true
  · by_cases h2 : L.1 < 150
    · rw [if_pos h1, if_pos (hLM ▸ h2)] at h
      subst h
      have e1 : tyS L a = (L.1 + 1, L.2.1, L.2.2.1, L.2.2.2.1, upd L.2.2.2.2.1 L.1 a, L.2.2.2.2.2) := if_pos ⟨h1, h2⟩
      have e2 : tyR L a = nI (L.1 + 1) := (if_pos h1).trans (if_pos h2)
      rw [e1, e2, toldV_p (nI_pos (by omega))]
      exact ⟨⟨hM, by show L.1 + 1 = M.2.1 + 1; rw [hLM], h2, by show upd L.2.2.2.2.1 L.1 a = upd g M.2.1 a; rw [hg, hLM]⟩, hF⟩
    · rw [if_pos h1, if_neg (hLM ▸ h2)] at h
      subst h
      have e1 : tyS L a = L := if_neg (fun q => h2 q.2)
      have e2 : tyR L a = -4 := (if_pos h1).trans (if_neg h2)
      rw [e1, e2, toldV_n (by decide)]
      exact ⟨⟨hM, hLM, hL0, hg⟩, fv_2 hF hM⟩
  · rw [if_neg h1] at h
    subst h
    have e1 : tyS L a = L := if_neg (fun q => h1 q.1)
    have e2 : tyR L a = -2 := if_neg h1
    rw [e1, e2, toldV_n (by decide)]
    exact ⟨⟨hM, hLM, hL0, hg⟩, fv_0 hF hM⟩
