def f_pc : Nat → Nat → Nat
  | 0, _ => 0
  | n + 1, m => m % 2 + f_pc n (m / 2)
theorem bc_test : ∀ m, m < 64 → q_Integer_bitCount (fun _ _ _ => 0, fun _ _ _ => 0) (nI m) = some (nI (f_pc 16 m)) := by decide +kernel
