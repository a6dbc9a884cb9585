/-! what holds at every turn of the law's loop -/
def bS1 (Γ : GG) (s c y : Nat → Nat) (p : Nat → Nat → Nat) (k : Nat → Nat) (pc : Nat) (C : CoV) (tr : Nat → TrV) (Y : YrV) (P : Nat → YrV) : BW :=
  [bSt Γ s c y p pc, bCo Γ c k C, bTs Γ c k tr, bYr Γ y Y, bYr Γ (p 0) (P 0), bYr Γ (p 1) (P 1), bYr Γ (p 2) (P 2), bYr Γ (p 3) (P 3), bYr Γ (p 4) (P 4), bYr Γ (p 5) (P 5)]
/-- an image: none yet, or a state that the reference's book of images holds -/
def IMG (Γ : GG) (k : Nat → Nat) (j : Nat) (f : Nat → Option Nat) (kp im : Nat → Int32) (I : va_W) : Prop :=
  (f j = none ∧ kp j = 0 ∧ I = []) ∨ ∃ (s d z : Nat → Nat) (p : Nat → Nat → Nat) (pc : Nat) (E : CoV) (T : Nat → TrV) (Z : YrV) (P : Nat → YrV), f j = some (s 0) ∧ ¬ kp j = 0 ∧ I = List.flatten (bS1 Γ s d z p k pc E T Z P) ∧ JP E T Z pc P ∧ Rel (fun q => im (259 * j + q)) E T Z pc P
/-- the world of the law: the object, the reference -/
def LW (Γ : GG) (t m s x c k y : Nat → Nat) (p : Nat → Nat → Nat) (d z : Nat → Nat) (p2 : Nat → Nat → Nat) (V : V3) (pc : Nat) (C : CoV) (tr : Nat → TrV) (Y : YrV) (P : Nat → YrV) (pc2 : Nat) (E : CoV) (T : Nat → TrV) (Z : YrV) (P2 : Nat → YrV) (f : Nat → Option Nat) (L : ScV) (tl : Nat → Int32) (I0 I1 : va_W) (M : MoV) (b im kp e4 e5 rf g e8 e9 e10 : Nat → Int32) : BW :=
  [bTT Γ t s x V, bKd Γ k, bSt Γ s c y p pc, bCo Γ c k C, bTs Γ c k tr, bYr Γ y Y, bYr Γ (p 0) (P 0), bYr Γ (p 1) (P 1), bYr Γ (p 2) (P 2), bYr Γ (p 3) (P 3), bYr Γ (p 4) (P 4), bYr Γ (p 5) (P 5),
   bSt Γ x d z p2 pc2, bCo Γ d k E, bTs Γ d k T, bYr Γ z Z, bYr Γ (p2 0) (P2 0), bYr Γ (p2 1) (P2 1), bYr Γ (p2 2) (P2 2), bYr Γ (p2 3) (P2 3), bYr Γ (p2 4) (P2 4), bYr Γ (p2 5) (P2 5),
   [(t 1, .inl (Γ.2 3, 2, .inr (.inr (.inr (.inr f)))))], bSc Γ t L, bA Γ (t 3) 6 tl, I0, I1,
   bMo Γ m M, bA Γ (m 1) 259 b, bA Γ (m 2) 518 im, bZ Γ (m 3) 2 kp, bA Γ (m 4) 259 e4, bA Γ (m 5) 259 e5, bA Γ (m 6) 3 rf, bA Γ (m 7) 150 g, bA Γ (m 8) 350 e8, bA Γ (m 9) 6 e9, bA Γ (m 10) 8 e10]
/-- what the two sides keep of one another -/
def LK (Γ : GG) (k : Nat → Nat) (V : V3) (pc : Nat) (C : CoV) (tr : Nat → TrV) (Y : YrV) (P : Nat → YrV) (E : CoV) (T : Nat → TrV) (Z : YrV) (f : Nat → Option Nat) (L : ScV) (I0 I1 : va_W) (M : MoV) (b im kp rf g : Nat → Int32) : Prop :=
  JP C tr Y pc P ∧ Rel b C tr Y pc P ∧ tB (E, T, Z) ∧ (M.1 = false ∧ L.1 = M.2.1 ∧ L.1 ≤ 150 ∧ L.2.2.2.2.1 = g) ∧ FV rf V ∧ IMG Γ k 0 f kp im I0 ∧ IMG Γ k 1 f kp im I1
/-- the loop's invariant -/
def LJ (Γ : GG) (A : Nat → Prop) (H0 : Heap) (t m : Nat → Nat) (H : Heap) (locs : List Loc) : Prop :=
  ∃ (s x c k y : Nat → Nat) (p : Nat → Nat → Nat) (d z : Nat → Nat) (p2 : Nat → Nat → Nat) (V : V3) (pc : Nat) (C : CoV) (tr : Nat → TrV) (Y : YrV) (P : Nat → YrV) (pc2 : Nat) (E : CoV) (T : Nat → TrV) (Z : YrV) (P2 : Nat → YrV) (f : Nat → Option Nat) (L : ScV) (tl : Nat → Int32) (I0 I1 : va_W) (M : MoV) (b im kp e4 e5 rf g e8 e9 e10 : Nat → Int32),
    LK Γ k V pc C tr Y P E T Z f L I0 I1 M b im kp rf g ∧ bP Γ (LW Γ t m s x c k y p d z p2 V pc C tr Y P pc2 E T Z P2 f L tl I0 I1 M b im kp e4 e5 rf g e8 e9 e10) H ∧ bD A (LW Γ t m s x c k y p d z p2 V pc C tr Y P pc2 E T Z P2 f L tl I0 I1 M b im kp e4 e5 rf g e8 e9 e10) ∧ va_S A H0 H locs
