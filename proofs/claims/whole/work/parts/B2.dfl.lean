abbrev yrD : YrV := (0, 0, 0, fun _ => 0, fun _ => 0)
abbrev coD : CoV := (0, 0, fun _ => 0, fun _ => 0, fun _ => 0, fun _ => 0, 0, 0, fun _ => 0, fun _ => 0, fun _ => 0)
abbrev trD : Nat → TrV := fun _ => (0, 0, 0, 0, 0, 0, 0, 0)
abbrev scD : ScV := (0, 0, 0, 0, fun _ => 0, fun _ => 0, fun _ => 0)
abbrev pad (l : List (Nat → Nat)) : Nat → Nat → Nat := fun j => l.getD j (fun _ => 0)
theorem six {p : Nat → Prop} (h0 : p 0) (h1 : p 1) (h2 : p 2) (h3 : p 3) (h4 : p 4) (h5 : p 5) : ∀ i, i < 6 → p i := fun i h =>
  match i, h with
  | 0, _ => h0
  | 1, _ => h1
  | 2, _ => h2
  | 3, _ => h3
  | 4, _ => h4
  | 5, _ => h5
