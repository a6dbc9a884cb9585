theorem RA_u {U : State} {c1 c2 : ClassId} {ty : FieldType} (h1 : va_RA U c1 ty) (h2 : va_RA U c2 ty) : c1 = c2 := by
  cases ty
  case object C =>
    obtain ⟨_, _, _, _, _, a4⟩ := h1
    obtain ⟨_, _, _, _, _, b4⟩ := h2
    exact Option.some.inj (a4.symm.trans b4)
  all_goals exact Option.some.inj ((show _ = some c1 from h1).symm.trans h2)
theorem bP_push {Γ : GG} {bs : BW} {x : Nat × va_E} {H : Heap} (h : va_P Γ.1 vwCl (bs.flatten ++ [x]) H) : bP Γ (bs ++ [[x]]) H := by
  show va_P _ _ (bs ++ [[x]]).flatten _
  rw [List.flatten_append]
  exact h
theorem bD_push {A : Nat → Prop} {bs : BW} {x : Nat × va_E} (h : va_D A (bs.flatten ++ [x])) : bD A (bs ++ [[x]]) := by
  show va_D _ (bs ++ [[x]]).flatten
  rw [List.flatten_append]
  exact h
/-- addresses in a row -/
abbrev adr (l : List Nat) : Nat → Nat := fun j => l.getD j 0
section KitN
variable {p : Program} {l : Launch} {e : Env} {R : Room} {s : State} {m : MethodId} {args : Array Value} {below : List Frame} {meth : Method} {c : Code} {H : Heap} {locs : List Loc} {cells slots : Nat} {Q : State → Prop}
  {cc : ByteArray} {nL pc : Nat} {own : String} {Γ : GG} {ls : Array Slot} {rest : List Value} {A : Nat → Prop} {bs : BW}
theorem g_newI (X : Cx p s m args c cc nL own Γ) (hP : bP Γ bs H) (hD : bD A bs) (hS : va_S A s.heap H locs) (hA : ∀ q, s.heap.size ≤ q → A q) {N : Nat} (hN : N < 1000) (hcells : cells + 1 ≤ R.cells) (hslots : slots + N ≤ R.slots) (hdg : decode cc pc = .ok (.newarray .int, 2))
    (kk : ∀ (q : Nat) (H1 : Heap), bP Γ (bs ++ [[(q, .inl (Γ.2 0, N, .inl (fun _ => 0)))]]) H1 → bD A (bs ++ [[(q, .inl (Γ.2 0, N, .inl (fun _ => 0)))]]) → va_S A s.heap H1 locs → W p l e R s m args below meth c H1 locs (cells + 1) (slots + N) Q (F0 m (pc + 2) ls (.ref q :: rest))) : W p l e R s m args below meth c H locs cells slots Q (F0 m pc ls (.int (nI N) :: rest)) := by
  obtain ⟨hx, hb, hml, hown, hts, hK⟩ := X
  refine va_newa (atype := .int) hx hb (hts _ ac_int) (ty := .int) rfl hK.1 hP hD hS hA (a0 := (N, .inl (fun _ => 0))) (fun cA => rfl) (nI_pos (by omega)) (nI_clamp (by omega)) (by show N * 4 ≤ _; omega) hcells hslots hdg ?_
  intro q cA H1 hK1 hP1 hD1 hS1
  have e : cA = Γ.2 0 := RA_u (hK1.2 6 _ rfl).2 (hK.1.2 0 _ rfl).2
  subst e
  exact kk q H1 (bP_push hP1) (bD_push hD1) hS1
theorem g_newZ (X : Cx p s m args c cc nL own Γ) (hP : bP Γ bs H) (hD : bD A bs) (hS : va_S A s.heap H locs) (hA : ∀ q, s.heap.size ≤ q → A q) {N : Nat} (hN : N < 1000) (hcells : cells + 1 ≤ R.cells) (hslots : slots + N ≤ R.slots) (hdg : decode cc pc = .ok (.newarray .boolean, 2))
    (kk : ∀ (q : Nat) (H1 : Heap), bP Γ (bs ++ [[(q, .inl (Γ.2 1, N, .inl (fun _ => 0)))]]) H1 → bD A (bs ++ [[(q, .inl (Γ.2 1, N, .inl (fun _ => 0)))]]) → va_S A s.heap H1 locs → W p l e R s m args below meth c H1 locs (cells + 1) (slots + N) Q (F0 m (pc + 2) ls (.ref q :: rest))) : W p l e R s m args below meth c H locs cells slots Q (F0 m pc ls (.int (nI N) :: rest)) := by
  obtain ⟨hx, hb, hml, hown, hts, hK⟩ := X
  refine va_newa (atype := .boolean) hx hb (hts _ ac_boolean) (ty := .boolean) rfl hK.1 hP hD hS hA (a0 := (N, .inl (fun _ => 0))) (fun cA => rfl) (nI_pos (by omega)) (nI_clamp (by omega)) (by show N * 1 ≤ _; omega) hcells hslots hdg ?_
  intro q cA H1 hK1 hP1 hD1 hS1
  have e : cA = Γ.2 1 := RA_u (hK1.2 6 _ rfl).2 (hK.1.2 1 _ rfl).2
  subst e
  exact kk q H1 (bP_push hP1) (bD_push hD1) hS1
theorem g_newq (X : Cx p s m args c cc nL own Γ) (hP : bP Γ bs H) (hD : bD A bs) (hS : va_S A s.heap H locs) (hA : ∀ q, s.heap.size ≤ q → A q) (t0 : Nat) {cA0 : ClassId} {C : String} (ht : (tyl Γ.2)[t0]? = some (cA0, .object C)) {index : Nat} (hcl : Cond.classLink own index C ∈ ALLW) (hao : va_AO C s) {N : Nat} (hN : N < 1000) (hcells : cells + 1 ≤ R.cells) (hslots : slots + N ≤ R.slots) (hdg : decode cc pc = .ok (.anewarray index, 3))
    (kk : ∀ (q : Nat) (H1 : Heap), bP Γ (bs ++ [[(q, .inl (cA0, N, .inr (.inr (.inr (.inr (fun _ => none))))))]]) H1 → bD A (bs ++ [[(q, .inl (cA0, N, .inr (.inr (.inr (.inr (fun _ => none))))))]]) → va_S A s.heap H1 locs → W p l e R s m args below meth c H1 locs (cells + 1) (slots + N) Q (F0 m (pc + 3) ls (.ref q :: rest))) : W p l e R s m args below meth c H locs cells slots Q (F0 m pc ls (.int (nI N) :: rest)) := by
  obtain ⟨hx, hb, hml, hown, hts, hK⟩ := X
  refine va_newq hx hb hown (hts _ hcl) hao hK.1 hP hD hS hA (nI_pos (by omega)) (nI_clamp (by omega)) (by omega) hcells hslots hdg ?_
  intro q cA H1 hK1 hP1 hD1 hS1
  have e : cA = cA0 := RA_u (hK1.2 6 _ rfl).2 (hK.1.2 t0 _ ht).2
  subst e
  exact kk q H1 (bP_push hP1) (bD_push hD1) hS1
theorem g_new (X : Cx p s m args c cc nL own Γ) (hP : bP Γ bs H) (hD : bD A bs) (hS : va_S A s.heap H locs) (hA : ∀ q, s.heap.size ≤ q → A q) (ci : Nat) {C : String} {T : u_T} {N : Nat} (hc : vwCl[ci]? = some (C, T, N)) (iw : ∀ w ∈ u_ws C T N, w ∈ ALLW) {ty0 : Nat → FieldType} (hty : ∀ k, k < N → parseFieldDescriptor (T k).2.2.1 = some (ty0 k)) {index : Nat} (hcl : Cond.classLink own index C ∈ ALLW) (hit : Cond.instantiable C N ∈ ALLW) (hini : Cond.initialized C ∈ ALLW) {fs : List Value} (hfs : ∀ j, j < N → defaultValue (ty0 j) = vp_V fs j) (hcells : cells + 1 ≤ R.cells) (hslots : slots + N ≤ R.slots) (hdg : decode cc pc = .ok (.new index, 3))
    (kk : ∀ (q : Nat) (H1 : Heap), bP Γ (bs ++ [[(q, .inr (ci, fs))]]) H1 → bD A (bs ++ [[(q, .inr (ci, fs))]]) → va_S A s.heap H1 locs → W p l e R s m args below meth c H1 locs (cells + 1) (slots + N) Q (F0 m (pc + 3) ls (.ref q :: rest))) : W p l e R s m args below meth c H locs cells slots Q (F0 m pc ls rest) := by
  obtain ⟨hx, hb, hml, hown, hts, hK⟩ := X
  refine va_new hx hb hts iw ty0 hty hown (hts _ hcl) (hts _ hit) (hts _ hini) hK.1 hP hD hS hA hc hfs hcells hslots hdg ?_
  intro q H1 hP1 hD1 hS1
  exact kk q H1 (bP_push hP1) (bD_push hD1) hS1
theorem g_putF (X : Cx p s m args c cc nL own Γ) (hnm2 : meth.name = "<init>") (hP : bP Γ bs H) (hD : bD A bs) (hS : va_S A s.heap H locs) (k j : Nat) {blk : va_W} (hk : bs[k]? = some blk) {a ci : Nat} {fs : List Value} (hj : blk[j]? = some (a, .inr (ci, fs))) {C : String} {T : u_T} {N : Nat} (hc : vwCl[ci]? = some (C, T, N)) (iw : ∀ w ∈ u_ws C T N, w ∈ ALLW) {ty0 : Nat → FieldType} (hty : ∀ k, k < N → parseFieldDescriptor (T k).2.2.1 = some (ty0 k)) (hnm : ∀ a, a < N → ∀ b, b < N → a ≠ b → (T a).2.1 ≠ (T b).2.1)
    (f : Nat) (hf : f < N) {index : Nat} (hl : (Cond.fieldLink own index (T f).1 (T f).2.1 (T f).2.2.1) ∈ ALLW) (hfin : (T f).2.2.2 = true) (hdecl : (T f).1 = own) {v : Value} (hn : narrow (ty0 f) v = v) (hfit : fits (ty0 f) v = true) (hlen : f < fs.length) {blk' : va_W} (hset : blk.set j (a, .inr (ci, fs.set f v)) = blk') {bs' : BW} (hbs : bs.set k blk' = bs') (hdg : decode cc pc = .ok (.putfield index, 3))
    (kk : ∀ (H1 : Heap) (locs1 : List Loc), bP Γ bs' H1 → bD A bs' → va_S A s.heap H1 locs1 → W p l e R s m args below meth c H1 locs1 cells slots Q (F0 m (pc + 3) ls rest)) : W p l e R s m args below meth c H locs cells slots Q (F0 m pc ls (v :: .ref a :: rest)) := by
  obtain ⟨hx, hb, hml, hown, hts, hK⟩ := X
  obtain ⟨i, hi, hst⟩ := bl_at hk hj
  subst hbs
  subst hset
  refine va_putF hx hb hts iw ty0 hty hnm hown hK.1 hP hD hS i hi hc f hf (hts _ hl) (fun _ h => h) hfin hnm2 hdecl (hty f hf) hn hfit hlen hdg ?_
  intro H1 locs1 h1 h2 h3
  rw [hst] at h1 h2
  exact kk H1 locs1 h1 h2 h3
theorem g_aastC (X : Cx p s m args c cc nL own Γ) (hP : bP Γ bs H) (hD : bD A bs) (hS : va_S A s.heap H locs) (k j t0 k2 j2 : Nat) {blk blk2 : va_W} (hk : bs[k]? = some blk) {a n v ci : Nat} {cA : ClassId} {r : vw_C} {E : String} {vs : List Value} {f : Nat → Option Nat} (hj : blk[j]? = some (a, .inl (cA, n, .inr (.inr (.inr (.inr f)))))) (ht : (tyl Γ.2)[t0]? = some (cA, .object E)) (hk2 : bs[k2]? = some blk2) (hj2 : blk2[j2]? = some (v, .inr (ci, vs))) (hc : vwCl[ci]? = some r) (hca : Cond.castable r.1 E ∈ nestW) {i : Nat} (hin : i < n) (hn : n < 1000) {blk' : va_W} (hset : blk.set j (a, .inl (cA, n, .inr (.inr (.inr (.inr (va_up f i (some v))))))) = blk') {bs' : BW} (hbs : bs.set k blk' = bs') (hdg : decode cc pc = .ok (.aastore, 1))
    (kk : ∀ (H1 : Heap) (locs1 : List Loc), bP Γ bs' H1 → bD A bs' → va_S A s.heap H1 locs1 → W p l e R s m args below meth c H1 locs1 cells slots Q (F0 m (pc + 1) ls rest)) : W p l e R s m args below meth c H locs cells slots Q (F0 m pc ls (.ref v :: .int (nI i) :: .ref a :: rest)) := by
  obtain ⟨hx, hb, hml, hown, hts, hK⟩ := X
  obtain ⟨q, hi, hst⟩ := bl_at hk hj
  obtain ⟨q2, hi2, -⟩ := bl_at hk2 hj2
  subst hbs
  subst hset
  have hcl : (nI i).toNatClampNeg = i := nI_clamp (by omega)
  refine vb_astq (C := r.1) hx hb hK.1 hP hD hS q t0 hi ht (va_recv hK.1 hP hc hi2) (vb_asgC (hK.2.1 _ hca)) (vp_in_nI hin (by omega)) hdg ?_
  intro H1 locs1 h1 h2 h3
  rw [hcl, hst] at h1 h2
  exact kk H1 locs1 h1 h2 h3
theorem g_obji (X : Cx p s m args c cc nL own Γ) {index : Nat} (hlink : Cond.methodLink own index objectInit ∈ ALLW) (hsz : ls.size = nL) {a : Nat} (hfr : 1 ≤ R.frames) (hlo : (rest.map fun v => v.category).sum + 12 ≤ R.locals) (hdg : decode cc pc = .ok (.invokespecial index, 3))
    (kk : W p l e R s m args below meth c H locs cells slots Q (F0 m (pc + 3) ls rest)) : W p l e R s m args below meth c H locs cells slots Q (F0 m pc ls (.ref a :: rest)) := by
  obtain ⟨hx, hb, hml, hown, hts, hK⟩ := X
  exact W.objInit hx hb hown (hts _ hlink) (hts _ im_obj) (hts _ cd_obj) rfl (by rw [hml]; exact hsz) rfl hdg hfr (by show 2 * 0 + _ + 12 ≤ _; omega) kk
end KitN
