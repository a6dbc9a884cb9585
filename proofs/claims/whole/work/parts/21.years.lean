theorem bTs_at (Γ : GG) (c k : Nat → Nat) (tr : Nat → TrV) {i : Nat} (h : i < 6) : (bTs Γ c k tr)[i]? = some (c (6 + i), .inr (9, [.ref (k (tr i).1), .int (tr i).2.1, .int (tr i).2.2.1, .int (tr i).2.2.2.1, .int (tr i).2.2.2.2.1, .int (tr i).2.2.2.2.2.1, .int (tr i).2.2.2.2.2.2.1, .int (tr i).2.2.2.2.2.2.2])) :=
  match i, h with
  | 0, _ => rfl
  | 1, _ => rfl
  | 2, _ => rfl
  | 3, _ => rfl
  | 4, _ => rfl
  | 5, _ => rfl
theorem bTs_set {Γ : GG} {c k : Nat → Nat} {tr : Nat → TrV} {i : Nat} {t : TrV} (h : i < 6) : (bTs Γ c k tr).set i (c (6 + i), .inr (9, [.ref (k t.1), .int t.2.1, .int t.2.2.1, .int t.2.2.2.1, .int t.2.2.2.2.1, .int t.2.2.2.2.2.1, .int t.2.2.2.2.2.2.1, .int t.2.2.2.2.2.2.2])) = bTs Γ c k (va_up tr i t) :=
  match i, h with
  | 0, _ => rfl
  | 1, _ => rfl
  | 2, _ => rfl
  | 3, _ => rfl
  | 4, _ => rfl
  | 5, _ => rfl
theorem bl_congr {Γ : GG} {bs : BW} {H : Heap} (hP : bP Γ bs H) (k j : Nat) {blk : va_W} (hk : bs[k]? = some blk) {a n : Nat} {cA : ClassId} {f : Nat → Int32} (g : Nat → Int32) (hj : blk[j]? = some (a, .inl (cA, n, .inl f))) (h : ∀ i, i < n → f i = g i) {blk' : va_W} (hset : blk.set j (a, .inl (cA, n, .inl g)) = blk') {bs' : BW} (hbs : bs.set k blk' = bs') : bP Γ bs' H := by
  obtain ⟨q, hi, hst⟩ := bl_at hk hj
  subst hbs
  subst hset
  show va_P _ _ _ _
  rw [← hst]
  refine va_P_congr (f := f) ?_ h
  have : bs.flatten.set q (a, .inl (cA, n, .inl f)) = bs.flatten := by
    apply List.ext_getElem?
    intro i
    by_cases e : q = i
    · subst e
      rw [List.getElem?_set_self (List.getElem?_eq_some_iff.mp hi).1, hi]
    · rw [List.getElem?_set_ne e]
  rw [this]
  exact hP
theorem bl_congrD {A : Nat → Prop} {bs : BW} (hD : bD A bs) (k j : Nat) {blk : va_W} (hk : bs[k]? = some blk) {a : Nat} {e0 e : va_E} (hj : blk[j]? = some (a, e0)) {blk' : va_W} (hset : blk.set j (a, e) = blk') {bs' : BW} (hbs : bs.set k blk' = bs') : bD A bs' := by
  obtain ⟨q, hi, hst⟩ := bl_at hk hj
  subst hbs
  subst hset
  show va_D _ _
  rw [← hst]
  exact hD.set hi
def bit (x : Nat) : Int32 := (1 : Int32) <<< nI x
def hasB (s : Int32) (x : Nat) : Bool := decide (s &&& bit x ≠ 0)
def yrBr (Y : YrV) (i : Nat) : Bool := hasB Y.2.2.1 i
def yrLost (Y : YrV) (x : Nat) : Bool := decide ((3 : Int32) ≤ Y.2.2.2.2 x)
def yrFlood (Y : YrV) (x : Nat) : YrV := (Y.1, Y.2.1, Y.2.2.1, if 0 < Y.2.2.2.1 x then upd Y.2.2.2.1 x (Y.2.2.2.1 x - 1) else Y.2.2.2.1, upd Y.2.2.2.2 x (Y.2.2.2.2 x + 1))
def yrLostB (Y : YrV) : Nat → Int32
  | 0 => 0
  | x + 1 => if yrLost Y x = true then yrLostB Y x ||| bit x else yrLostB Y x
def yrFeet (Y : YrV) (cells : Int32) : Nat → Int32
  | 0 => 0
  | x + 1 => if hasB cells x = true then yrFeet Y cells x + Y.2.2.2.1 x else yrFeet Y cells x
def yr0 : YrV := (0, 50, 0, fun _ => 0, fun _ => 0)
theorem hasB_f {s : Int32} {x : Nat} : s &&& bit x = 0 ↔ hasB s x = false := by simp [hasB]
theorem hasB_t {s : Int32} {x : Nat} : ¬ s &&& bit x = 0 ↔ hasB s x = true := by simp [hasB]
theorem upd_z {f : Nat → Int32} {i : Nat} {v : Int32} (h : ∀ j, j < i → f j = v) : ∀ j, j < i + 1 → upd f i v j = v := fun j hj => by
  by_cases e : j = i
  · subst e; exact pk_us
  · rw [pk_un e]; exact h j (by omega)
theorem retT {b : Bool} (h : b = true) : nI 1 = bI b := by rw [h]; rfl
theorem retF {b : Bool} (h : b = false) : nI 0 = bI b := by rw [h]; rfl
theorem bI_ne {b : Bool} (h : ¬ bI b = 0) : b = true := by
  cases b
  · exact absurd rfl h
  · rfl
