section KitZ
variable {p : Program} {l : Launch} {e : Env} {R : Room} {s : State} {m : MethodId} {args : Array Value} {below : List Frame} {meth : Method} {c : Code} {H : Heap} {locs : List Loc} {cells slots : Nat} {Q : State → Prop}
  {cc : ByteArray} {nL pc : Nat} {own : String} {Γ : GG} {ls : Array Slot} {rest : List Value} {A : Nat → Prop} {bs : BW}
theorem g_zaldN (X : Cx p s m args c cc nL own Γ) (hP : bP Γ bs H) (k j : Nat) {blk : va_W} (hk : bs[k]? = some blk) {a n : Nat} {f : Nat → Int32} (hj : blk[j]? = some (a, .inl (Γ.2 1, n, .inl f))) {i : Nat} (hin : i < n) (hn : n < 1000) (hdg : decode cc pc = .ok (.baload, 1))
    (kk : W p l e R s m args below meth c H locs cells slots Q (F0 m (pc + 1) ls (.int (f i) :: rest))) : W p l e R s m args below meth c H locs cells slots Q (F0 m pc ls (.int (nI i) :: .ref a :: rest)) := by
  obtain ⟨hx, hb, hml, hown, hts, hK⟩ := X
  obtain ⟨q, hi, -⟩ := bl_at hk hj
  refine va_zald hx hb hK.1 hP q 1 hi rfl (vp_in_nI hin (by omega)) hdg ?_
  rw [nI_clamp (by omega)]
  exact kk
theorem g_zastN (X : Cx p s m args c cc nL own Γ) (hP : bP Γ bs H) (hD : bD A bs) (hS : va_S A s.heap H locs) (k j : Nat) {blk : va_W} (hk : bs[k]? = some blk) {a n : Nat} {f : Nat → Int32} (hj : blk[j]? = some (a, .inl (Γ.2 1, n, .inl f))) {i : Nat} {x : Int32} (hin : i < n) (hn : n < 1000) {blk' : va_W} (hset : blk.set j (a, .inl (Γ.2 1, n, .inl (upd f i x))) = blk') {bs' : BW} (hbs : bs.set k blk' = bs') (hdg : decode cc pc = .ok (.bastore, 1))
    (kk : ∀ (H1 : Heap) (locs1 : List Loc), bP Γ bs' H1 → bD A bs' → va_S A s.heap H1 locs1 → W p l e R s m args below meth c H1 locs1 cells slots Q (F0 m (pc + 1) ls rest)) (hnar : vp_nar .boolean x = x := by decide) : W p l e R s m args below meth c H locs cells slots Q (F0 m pc ls (.int x :: .int (nI i) :: .ref a :: rest)) := by
  obtain ⟨hx, hb, hml, hown, hts, hK⟩ := X
  obtain ⟨q, hi, hst⟩ := bl_at hk hj
  subst hbs
  subst hset
  refine va_zast hx hb hK.1 hP hD hS q 1 hi rfl (vp_in_nI hin (by omega)) hdg ?_
  intro H1 locs1 h1 h2 h3
  rw [nI_clamp (by omega), hnar] at h1 h2
  rw [hst] at h1 h2
  exact kk H1 locs1 h1 h2 h3
end KitZ
def orN (p : Nat → Bool) : Nat → Bool
  | 0 => false
  | n + 1 => orN p n || p n
def meC (tr : Nat → TrV) (F : Nat → Int32) (j u k : Nat) : Bool := shC tr k j && shY (tFirst (tr k)) (F k) (tFirst (tr j)) (nI u)
theorem shC_comm {tr : Nat → TrV} {i j : Nat} : shC tr i j = shC tr j i := by unfold shC; exact Bool.and_comm _ _
theorem bits_sh {C : CoV} {tr : Nat → TrV} {Y : YrV} (h : Inv C tr Y) {i j : Nat} (hi : i < C.2.2.2.2.2.2.1) (hj : j < C.2.2.2.2.2.2.1) : decide (trBits (tr i) &&& trBits (tr j) ≠ 0) = shC tr i j := by
  have hn := inv_n h
  obtain ⟨a, b, f, u, e1, e2, hab, hb, -⟩ := inv_tr h hi
  obtain ⟨c, d, f', u', e3, e4, hcd, hd, -⟩ := inv_tr h hj
  have key := trb_fin ⟨a, by omega⟩ ⟨b, by omega⟩ ⟨c, by omega⟩ ⟨d, by omega⟩ hab hcd
  unfold trBits shC
  rw [show (tr i).2.2.1 = nI a from e1, show (tr i).2.2.2.1 = nI b from e2, show (tr j).2.2.1 = nI c from e3, show (tr j).2.2.2.1 = nI d from e4, e1, e2, e3, e4, decide_eq_decide.mpr key, Bool.decide_and]
  have q1 : (nI d < nI a) ↔ ¬ a ≤ d := by rw [Int32.lt_iff_toInt_lt, nI_toInt (by omega), nI_toInt (by omega)]; omega
  have q2 : (nI b < nI c) ↔ ¬ c ≤ b := by rw [Int32.lt_iff_toInt_lt, nI_toInt (by omega), nI_toInt (by omega)]; omega
  rw [decide_eq_decide.mpr q1, decide_eq_decide.mpr q2, decide_not, decide_not, Bool.not_not, Bool.not_not]
  rfl
theorem imax_n {a b : Nat} (ha : a < 2 ^ 31) (hb : b < 2 ^ 31) : imax (nI a) (nI b) = nI (max a b) := by
  unfold imax
  by_cases h : a < b
  · rw [if_pos ((nI_ltI ha hb).mpr h), Nat.max_eq_right (by omega)]
  · rw [if_neg (fun q => h ((nI_ltI ha hb).mp q)), Nat.max_eq_left (by omega)]
theorem imin_n {a b : Nat} (ha : a < 2 ^ 31) (hb : b < 2 ^ 31) : imin (nI a) (nI b) = nI (min a b) := by
  unfold imin
  by_cases h : b < a
  · rw [if_pos ((nI_ltI hb ha).mpr h), Nat.min_eq_right (by omega)]
  · rw [if_neg (fun q => h ((nI_ltI hb ha).mp q)), Nat.min_eq_left (by omega)]
theorem shY_n {f t g u : Nat} (hf : f < 2 ^ 20) (ht : t < 2 ^ 20) (hg : g < 2 ^ 20) (hu : u < 2 ^ 20) : shY (nI f) (nI t) (nI g) (nI u) = decide (max f g < min t u) := by
  rw [← shY_eq, imax_n (by omega) (by omega), imin_n (by omega) (by omega), decide_eq_decide]
  exact nI_ltI (by omega) (by omega)
/-- the till of a treaty as cut, against clashes one year at a time -/
theorem till_key {C : CoV} {tr : Nat → TrV} {Y : YrV} {F : Nat → Int32} {j f0 u0 : Nat} (h : Inv C tr Y) (hj : j < C.2.2.2.2.2.2.1) (ef : tFirst (tr j) = nI f0) (eu : tTill (tr j) = nI u0) (hf0 : f0 < 2 ^ 20) (hu0 : u0 < 2 ^ 20) (hF : ∀ k, k < j → ∃ t : Nat, F k = nI t ∧ t < 2 ^ 20) : ∀ {n : Nat}, n ≤ j → ∃ us : Nat, tillB tr F j n = nI us ∧ us ≤ u0 ∧ ∀ u, u ≤ u0 → orN (meC tr F j u) n = decide (us < u)
  | 0, _ => ⟨u0, eu, Nat.le_refl _, fun u hu => by rw [decide_eq_false (by omega)]; rfl⟩
  | n + 1, hn => by
    obtain ⟨us, e, hb, key⟩ := till_key h hj ef eu hf0 hu0 hF (n := n) (by omega)
    obtain ⟨t, et, ht⟩ := hF n (by omega)
    obtain ⟨a, b, f, u', e1, e2, hab, hb2, e3, e4, hf, hu'⟩ := inv_tr h (show n < C.2.2.2.2.2.2.1 by omega)
    have hs := bits_sh h hj (show n < C.2.2.2.2.2.2.1 by omega)
    have hcond : (trBits (tr j) &&& trBits (tr n) ≠ 0 ∧ imax (tFirst (tr j)) (tFirst (tr n)) < imin (tillB tr F j n) (F n)) ↔ (shC tr n j = true ∧ max f0 f < min us t) := by
      rw [shC_comm, ← hs, decide_eq_true_eq, ef, show tFirst (tr n) = nI f from e3, e, et, imax_n (by omega) (by omega), imin_n (by omega) (by omega), nI_ltI (by omega) (by omega)]
    have hmc : ∀ u, u ≤ u0 → meC tr F j u n = decide (shC tr n j = true ∧ max f f0 < min t u) := fun u hu => by
      unfold meC
      rw [show tFirst (tr n) = nI f from e3, et, ef, shY_n hf ht hf0 (by omega)]
      cases shC tr n j <;> simp
    by_cases hc : trBits (tr j) &&& trBits (tr n) ≠ 0 ∧ imax (tFirst (tr j)) (tFirst (tr n)) < imin (tillB tr F j n) (F n)
    · obtain ⟨hc1, hc2⟩ := hcond.mp hc
      refine ⟨max f0 f, ?_, by omega, fun u hu => ?_⟩
      · rw [tillB, if_pos hc, ef, show tFirst (tr n) = nI f from e3, imax_n (by omega) (by omega)]
      · rw [orN, key u hu, hmc u hu, hc1, ← Bool.decide_or, decide_eq_decide]
        simp only [true_and]
        omega
    · refine ⟨us, ?_, hb, fun u hu => ?_⟩
      · rw [tillB, if_neg hc]; exact e
      · rw [orN, key u hu, hmc u hu, ← Bool.decide_or, decide_eq_decide]
        have hc' := fun q => hc (hcond.mpr q)
        constructor
        · rintro (q | ⟨q1, q2⟩)
          · exact q
          · have : ¬ max f0 f < min us t := fun q3 => hc' ⟨q1, q3⟩
            omega
        · exact Or.inl
theorem meF_nat {C : CoV} {tr : Nat → TrV} {Y : YrV} {ff : Nat → Int32} (h : Inv C tr Y) : ∀ {j : Nat}, j ≤ C.2.2.2.2.2.2.1 → ∀ k, k < j → ∃ t : Nat, meF tr ff j k = nI t ∧ t < 2 ^ 20
  | 0, _, k, hk => absurd hk (Nat.not_lt_zero _)
  | j + 1, hj, k, hk => by
    rw [meF]
    by_cases e : k = j
    · subst e
      obtain ⟨a, b, f, u, e1, e2, hab, hb2, e3, e4, hf, hu⟩ := inv_tr h (show k < C.2.2.2.2.2.2.1 by omega)
      obtain ⟨us, q1, q2, -⟩ := till_key h (show k < C.2.2.2.2.2.2.1 by omega) e3 e4 hf hu (meF_nat (ff := ff) h (j := k) (by omega)) (Nat.le_refl k)
      exact ⟨us, by rw [pk_us]; exact q1, by omega⟩
    · rw [pk_un e]; exact meF_nat h (by omega) k (by omega)
theorem me_key {C : CoV} {tr : Nat → TrV} {Y : YrV} {ff : Nat → Int32} {j : Nat} (h : Inv C tr Y) (hj : j < C.2.2.2.2.2.2.1) : ∃ u0 us : Nat, ((tr j).2.2.2.2.2.1 = nI u0 ∧ u0 < 2 ^ 20) ∧ us ≤ u0 ∧ tillB tr (meF tr ff j) j j = nI us ∧ ∀ u, u ≤ u0 → orN (meC tr (meF tr ff j) j u) j = decide (us < u) := by
  obtain ⟨a, b, f, u, e1, e2, hab, hb2, e3, e4, hf, hu⟩ := inv_tr h hj
  obtain ⟨us, q1, q2, q3⟩ := till_key h hj e3 e4 hf hu (meF_nat (ff := ff) h (j := j) (by omega)) (Nat.le_refl j)
  exact ⟨u, us, ⟨e4, hu⟩, q2, q1, q3⟩
def meM (us u : Nat) (z : Bool) : Nat := 2 * (u - us) + (if z = true then 1 else 0)
theorem me_m1 {us u n : Nat} {z z2 : Bool} (h : us < u) (hz : z = true) (hm : meM us u z < n + 1) : meM us (u - 1) z2 < n := by
  unfold meM at hm ⊢
  rw [if_pos hz] at hm
  split <;> omega
theorem me_m2 {us u n : Nat} {z z2 : Bool} (hz : z = true) (hz2 : z2 = false) (hm : meM us u z < n + 1) : meM us u z2 < n := by
  unfold meM at hm ⊢
  rw [if_pos hz] at hm
  rw [if_neg (by rw [hz2]; exact Bool.false_ne_true)]
  omega
theorem me_s1 {s b : Int32} {u0 u : Nat} (hs : s = b + nI (u0 - u)) (h1 : 1 ≤ u) (h2 : u ≤ u0) : s + 1 = b + nI (u0 - (u - 1)) := by
  rw [hs, Int32.add_assoc, nI_s, show u0 - u + 1 = u0 - (u - 1) by omega]
theorem me_a {tr : Nat → TrV} {ff : Nat → Int32} {j u0 us u : Nat} {s : Int32} (hs : s = meS tr ff j + nI (u0 - u)) (e : u = us) (h : us ≤ u0) (e0 : (tr j).2.2.2.2.2.1 = nI u0) (et : tillB tr (meF tr ff j) j j = nI us) : s = meS tr ff (j + 1) := by
  rw [meS, et, show tTill (tr j) = nI u0 from e0, pk_sub h, hs, e]
theorem me_t {tr : Nat → TrV} {ff t2 : Nat → Int32} {j us u : Nat} (h2 : t2 j = nI u) (e : u = us) (hk : ∀ k, k < j → t2 k = meF tr ff j k) (et : tillB tr (meF tr ff j) j j = nI us) : ∀ k, k < j + 1 → t2 k = meF tr ff (j + 1) k := fun k h => by
  rw [meF]
  by_cases q : k = j
  · subst q; rw [pk_us, et, h2, e]
  · rw [pk_un q]; exact hk k (by omega)
theorem cpy_i {b im h : Nat → Int32} {j i : Nat} (e : ∀ k, k < i → h (259 * j + k) = b k) : ∀ k, k < i + 1 → upd h (259 * j + i) (b i) (259 * j + k) = b k := fun k hk => by
  by_cases q : k = i
  · subst q; exact pk_us
  · rw [pk_un (by omega)]; exact e k (by omega)
theorem cpy_o {im h : Nat → Int32} {j i : Nat} {v : Int32} (e : ∀ k, (k < 259 * j ∨ 259 * j + 259 ≤ k) → h k = im k) (hi : i < 259) : ∀ k, (k < 259 * j ∨ 259 * j + 259 ≤ k) → upd h (259 * j + i) v k = im k := fun k hk => by
  rw [pk_un (by omega)]; exact e k hk
