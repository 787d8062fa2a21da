-- ==== the bits of a double, by computing (4)
theorem dbT4 : ∀ m : Nat, m < 13 → ∀ n : Nat, n < m + 108 → dbC (n + 1) (m + 108) = true := by decide +kernel
theorem dbT {n m : Nat} (hn : 1 ≤ n) (hm : n ≤ m) (h : m ≤ 120) : dbC n m = true := by
  obtain ⟨j, rfl⟩ : ∃ j : Nat, n = j + 1 := ⟨n - 1, by omega⟩
  by_cases h1 : m < 61
  · exact dbT1 m h1 j (by omega)
  · by_cases h2 : m < 91
    · have := dbT2 (m - 61) (by omega) j (by omega)
      rwa [show m - 61 + 61 = m by omega] at this
    · by_cases h3 : m < 108
      · have := dbT3 (m - 91) (by omega) j (by omega)
        rwa [show m - 91 + 91 = m by omega] at this
      · have := dbT4 (m - 108) (by omega) j (by omega)
        rwa [show m - 108 + 108 = m by omega] at this
theorem dbT0 : ∀ m : Nat, m < 121 → m = 0 ∨ (dbK 0 m = true ∧ dbQ 0 m = 0 ∧ ¬ (0 : Int) < (Op.cmpValue (FP.dcmp (gU64 (dbQ 0 m)) (gU64 (gdb FP.dconst0))) .g).toInt) := by decide +kernel
