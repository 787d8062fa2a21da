-- ==== the bits of a double, by computing (3)
theorem dbT3 : ∀ m : Nat, m < 17 → ∀ n : Nat, n < m + 91 → dbC (n + 1) (m + 91) = true := by decide +kernel
