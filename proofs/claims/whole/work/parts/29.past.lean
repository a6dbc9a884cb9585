def rotP (p : Nat → Nat → Nat) : Nat → Nat → Nat := fun j => if j < 5 then p (j + 1) else if j = 5 then p 0 else p j
def rotV (P : Nat → YrV) : Nat → YrV := fun j => if j < 5 then P (j + 1) else if j = 5 then P 0 else P j
def yCpy (a b : Nat → YrV) (n : Nat) : Nat → YrV := fun j => if j < n then a j else b j
theorem yCpy_0 {a b : Nat → YrV} : yCpy a b 0 = b := funext fun j => by simp [yCpy]
theorem yCpy_s {a b : Nat → YrV} {i : Nat} : va_up (yCpy a b i) i (a i) = yCpy a b (i + 1) := funext fun j => by
  by_cases e : j = i
  · subst e; rw [va_up_self]; simp [yCpy]
  · rw [va_up_ne _ _ e]
    simp only [yCpy]
    by_cases h : j < i
    · rw [if_pos h, if_pos (by omega)]
    · rw [if_neg h, if_neg (by omega)]
theorem arrq_congr {cA : ClassId} {n : Nat} {f g : Nat → Option Nat} (h : ∀ j, j < n → f j = g j) : vp_cell cA (n, .inr (.inr (.inr (.inr f)))) = vp_cell cA (n, .inr (.inr (.inr (.inr g)))) := by
  rw [vp_cell_q, vp_cell_q]
  unfold arrV
  have : (fun j : Fin n => va_rf (f j.val)) = (fun j => va_rf (g j.val)) := funext fun j => by rw [h j.val j.isLt]
  rw [this]
theorem bl_congrQ {Γ : GG} {bs : BW} {H : Heap} (hP : bP Γ bs H) (k j : Nat) {blk : va_W} (hk : bs[k]? = some blk) {a n : Nat} {cA : ClassId} {f : Nat → Option Nat} (g : Nat → Option Nat) (hj : blk[j]? = some (a, .inl (cA, n, .inr (.inr (.inr (.inr f)))))) (h : ∀ i, i < n → f i = g i) {blk' : va_W} (hset : blk.set j (a, .inl (cA, n, .inr (.inr (.inr (.inr g))))) = blk') {bs' : BW} (hbs : bs.set k blk' = bs') : bP Γ bs' H := by
  obtain ⟨q, hi, hst⟩ := bl_at hk hj
  subst hbs
  subst hset
  show va_P _ _ _ _
  rw [← hst]
  intro i x hx
  by_cases e : i = q
  · subst e
    rw [List.getElem?_set_self (List.getElem?_eq_some_iff.mp hi).1] at hx
    cases hx
    have h1 : H[a]? = some (vp_cell cA (n, .inr (.inr (.inr (.inr f))))) := hP i _ hi
    show H[a]? = some (vp_cell _ _)
    rw [h1, arrq_congr h]
  · rw [List.getElem?_set_ne (Ne.symm e)] at hx
    exact hP i x hx
section KitH
variable {p : Program} {l : Launch} {e : Env} {R : Room} {s : State} {m : MethodId} {args : Array Value} {below : List Frame} {meth : Method} {c : Code} {H : Heap} {locs : List Loc} {cells slots : Nat} {Q : State → Prop}
  {cc : ByteArray} {nL pc : Nat} {own : String} {Γ : GG} {ls : Array Slot} {rest : List Value} {A : Nat → Prop} {bs : BW}
theorem g_aastN (X : Cx p s m args c cc nL own Γ) (hP : bP Γ bs H) (hD : bD A bs) (hS : va_S A s.heap H locs) (k j t0 k2 j2 : Nat) {blk blk2 : va_W} (hk : bs[k]? = some blk) {a n v ci : Nat} {cA : ClassId} {r : vw_C} {vs : List Value} {f : Nat → Option Nat} (hj : blk[j]? = some (a, .inl (cA, n, .inr (.inr (.inr (.inr f)))))) (ht : (tyl Γ.2)[t0]? = some (cA, .object r.1)) (hk2 : bs[k2]? = some blk2) (hj2 : blk2[j2]? = some (v, .inr (ci, vs))) (hc : vwCl[ci]? = some r) {i : Nat} (hin : i < n) (hn : n < 1000) {blk' : va_W} (hset : blk.set j (a, .inl (cA, n, .inr (.inr (.inr (.inr (va_up f i (some v))))))) = blk') {bs' : BW} (hbs : bs.set k blk' = bs') (hdg : decode cc pc = .ok (.aastore, 1))
    (kk : ∀ (H1 : Heap) (locs1 : List Loc), bP Γ bs' H1 → bD A bs' → va_S A s.heap H1 locs1 → W p l e R s m args below meth c H1 locs1 cells slots Q (F0 m (pc + 1) ls rest)) : W p l e R s m args below meth c H locs cells slots Q (F0 m pc ls (.ref v :: .int (nI i) :: .ref a :: rest)) := by
  obtain ⟨hx, hb, hml, hown, hts, hK⟩ := X
  obtain ⟨q, hi, hst⟩ := bl_at hk hj
  obtain ⟨q2, hi2, -⟩ := bl_at hk2 hj2
  subst hbs
  subst hset
  have hcl : (nI i).toNatClampNeg = i := nI_clamp (by omega)
  refine va_astq hx hb hK.1 hP hD hS q t0 q2 ci hi ht hi2 hc (vp_in_nI hin (by omega)) hdg ?_
  intro H1 locs1 h1 h2 h3
  rw [hcl, hst] at h1 h2
  exact kk H1 locs1 h1 h2 h3
end KitH
theorem rot_ok {p : Nat → Nat → Nat} : ∀ i, i < 6 → (va_up (va_up (va_up (va_up (va_up (va_up (fun j => some (p j 0)) 0 (some (p 1 0))) 1 (some (p 2 0))) 2 (some (p 3 0))) 3 (some (p 4 0))) 4 (some (p 5 0))) 5 (some (p 0 0))) i = some (rotP p i 0) := fun i h =>
  match i, h with
  | 0, _ => rfl
  | 1, _ => rfl
  | 2, _ => rfl
  | 3, _ => rfl
  | 4, _ => rfl
  | 5, _ => rfl
