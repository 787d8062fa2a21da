-- ==== the bits of a double, by computing (2)
theorem dbT2 : ∀ m : Nat, m < 30 → ∀ n : Nat, n < m + 61 → dbC (n + 1) (m + 61) = true := by decide +kernel
