def cB (q : Int32) : Nat → Nat
  | 0 => 0
  | w + 1 => if hasB q w = true then cB q w + 1 else cB q w
theorem popc_t : ∀ a, a < 16 → ∀ b, b < 64 → popc (nI (64 * a + b)) = nI (cB (nI (64 * a + b)) 16) := by decide +kernel
