-- ==== the reference: PATHS
/-- the NAMES of a PATH stand together at its front -/
def pW (p : Int) : Prop := 0 ≤ p ∧ p < 1073741824 ∧ ∀ n : Nat, n < 5 → pg p n = 0 → pg p (n + 1) = 0
theorem ss_all : ∀ i : Nat, i < 6 → ((Int32.ofInt (25 - 5 * (i : Int)) &&& 31).toBitVec.smod 32).toNat = 25 - 5 * i := by decide +kernel
theorem ss30_all : ∀ i : Nat, i < 7 → ((Int32.ofInt (30 - 5 * (i : Int)) &&& 31).toBitVec.smod 32).toNat = 30 - 5 * i := by decide +kernel
theorem pg_ofs {p : Int} (h : 0 ≤ p) (h2 : p < 1073741824) {n : Nat} (hn : n < 6) : gand (gshr p (25 - 5 * (n : Int))) 31 = pg p n := by
  rw [gshr_div h (by omega) _ (25 - 5 * n) (ss_all n hn)]
  have h3 : 0 ≤ p / (2 ^ (25 - 5 * n) : Nat) := Int.ediv_nonneg h (Int.natCast_nonneg _)
  have h4 : p / (2 ^ (25 - 5 * n) : Nat) ≤ p := Int.ediv_le_self _ h
  rw [gand_mask h3 (by omega) 5 31 (by decide +kernel) (by decide)]
  rfl
/-- the first n NAMES as one number -/
def pq (p : Int) (n : Nat) : Int := p / (2 ^ (30 - 5 * n) : Nat)
theorem pq_of {p : Int} (h : 0 ≤ p) (h2 : p < 1073741824) {n : Nat} (hn : n ≤ 6) : gshr p (30 - 5 * (n : Int)) = pq p n := gshr_div h (by omega) _ (30 - 5 * n) (ss30_all n (by omega))
theorem pq_zero {p : Int} (h : 0 ≤ p) (h2 : p < 1073741824) : pq p 0 = 0 := by
  unfold pq
  exact Int.ediv_eq_zero_of_lt h (by simpa using h2)
theorem pq_six (p : Int) : pq p 6 = p := by simp [pq]
theorem pq_succ (p : Int) {n : Nat} (hn : n < 6) : pq p (n + 1) = 32 * pq p n + pg p n := by
  unfold pq pg
  rw [show 30 - 5 * (n + 1) = 25 - 5 * n by omega, show 30 - 5 * n = (25 - 5 * n) + 5 by omega, Nat.pow_add, Int.natCast_mul, ← Int.ediv_ediv_of_nonneg (by exact Int.natCast_nonneg _)]
  generalize p / ((2 ^ (25 - 5 * n) : Nat) : Int) = x
  simp only [Nat.reducePow]
  omega
theorem pq_eq {a b : Int} (ha : 0 ≤ a ∧ a < 1073741824) (hb : 0 ≤ b ∧ b < 1073741824) : ∀ n : Nat, n ≤ 6 → (pq b n = pq a n ↔ ∀ i, i < n → pg a i = pg b i)
  | 0, _ => by rw [pq_zero ha.1 ha.2, pq_zero hb.1 hb.2]; exact ⟨fun _ i hi => by omega, fun _ => rfl⟩
  | n + 1, hn => by
    have ih := pq_eq ha hb n (by omega)
    have ra := pg_rng a n
    have rb := pg_rng b n
    rw [pq_succ a (by omega), pq_succ b (by omega)]
    constructor
    · intro h i hi
      by_cases hin : i = n
      · subst hin; omega
      · exact ih.mp (by omega) i (by omega)
    · intro h
      have h1 := ih.mpr (fun i hi => h i (by omega))
      have h2 := h n (by omega)
      omega
theorem pg_ext {a b : Int} (ha : 0 ≤ a ∧ a < 1073741824) (hb : 0 ≤ b ∧ b < 1073741824) (h : ∀ i, i < 6 → pg a i = pg b i) : a = b := by
  have := (pq_eq ha hb 6 (by decide)).mpr h
  rw [pq_six, pq_six] at this
  exact this.symm
theorem pNm_at {p : Int} {n : Nat} (hn : n ≤ 6) (q : ∀ i, i < 6 → (pg p i = 0 ↔ n ≤ i)) : pNm p = n := by
  have hc : n = 0 ∨ n = 1 ∨ n = 2 ∨ n = 3 ∨ n = 4 ∨ n = 5 ∨ n = 6 := by omega
  simp only [pNm, pNzF, Nat.sub_self, show 5 - 4 = 1 from rfl, show 5 - 3 = 2 from rfl, show 5 - 2 = 3 from rfl, show 5 - 1 = 4 from rfl, show 5 - 0 = 5 from rfl, q 0 (by decide), q 1 (by decide), q 2 (by decide), q 3 (by decide), q 4 (by decide), q 5 (by decide)]
  rcases hc with rfl | rfl | rfl | rfl | rfl | rfl | rfl <;> decide
theorem pW_zero {p : Int} (hw : pW p) {n : Nat} (h : pg p n = 0) : ∀ d, n + d < 6 → pg p (n + d) = 0
  | 0, _ => h
  | d + 1, hd => hw.2.2 (n + d) (by omega) (pW_zero hw h d (by omega))
/-- the number of NAMES, as a natural number -/
theorem pW_nm {p : Int} (hw : pW p) : ∃ n : Nat, n ≤ 6 ∧ pNm p = n ∧ ∀ i, i < 6 → (pg p i = 0 ↔ n ≤ i) := by
  have key : ∀ n : Nat, n ≤ 6 → (∀ i, i < n → pg p i ≠ 0) ∨ ∃ m, m < n ∧ (∀ i, i < m → pg p i ≠ 0) ∧ pg p m = 0 := by
    intro n
    induction n with
    | zero => intro _; exact Or.inl (fun i hi => by omega)
    | succ n ih =>
      intro hn
      rcases ih (by omega) with h | ⟨m, h1, h2, h3⟩
      · by_cases hz : pg p n = 0
        · exact Or.inr ⟨n, by omega, h, hz⟩
        · exact Or.inl (fun i hi => by
            by_cases hin : i = n
            · subst hin; exact hz
            · exact h i (by omega))
      · exact Or.inr ⟨m, by omega, h2, h3⟩
  rcases key 6 (by decide) with h | ⟨m, h1, h2, h3⟩
  · have q : ∀ i, i < 6 → (pg p i = 0 ↔ 6 ≤ i) := fun i hi => ⟨fun e => absurd e (h i hi), fun e => by omega⟩
    exact ⟨6, by decide, pNm_at (by decide) q, q⟩
  · have q : ∀ i, i < 6 → (pg p i = 0 ↔ m ≤ i) := fun i hi => ⟨fun e => by
      by_cases c : i < m
      · exact absurd e (h2 i c)
      · omega, fun e => by
      have := pW_zero hw h3 (i - m) (by omega)
      rwa [show m + (i - m) = i by omega] at this⟩
    exact ⟨m, by omega, pNm_at (by omega) q, q⟩
theorem pCovF_iff {a b : Int} {n : Nat} (hn : n ≤ 6) (q : ∀ i, i < 6 → (pg a i = 0 ↔ n ≤ i)) : ∀ k : Nat, k ≤ 6 → (pCovF a b k = true ↔ ∀ i, 6 - k ≤ i → i < n → pg a i = pg b i)
  | 0, _ => ⟨fun _ i h1 h2 => by omega, fun _ => rfl⟩
  | k + 1, hk => by
    have ih := pCovF_iff (b := b) hn q k (by omega)
    rw [pCovF]
    have hq := q (5 - k) (by omega)
    by_cases h0 : pg a (5 - k) = 0
    · rw [if_pos h0]
      exact ⟨fun _ i h1 h2 => by have := hq.mp h0; omega, fun _ => rfl⟩
    · rw [if_neg h0]
      by_cases h1 : pg a (5 - k) = pg b (5 - k)
      · rw [if_pos h1, ih]
        constructor
        · intro h i h2 h3
          by_cases e : i = 5 - k
          · rw [e]; exact h1
          · exact h i (by omega) h3
        · intro h i h2 h3
          exact h i (by omega) h3
      · rw [if_neg h1]
        constructor
        · intro h; cases h
        · intro h
          exact absurd (h (5 - k) (by omega) (by
            have : ¬ n ≤ 5 - k := fun e => h0 (hq.mpr e)
            omega)) h1
theorem pCov_iff {a b : Int} {n : Nat} (hn : n ≤ 6) (q : ∀ i, i < 6 → (pg a i = 0 ↔ n ≤ i)) : pCov a b = true ↔ ∀ i, i < n → pg a i = pg b i := by
  have := pCovF_iff (b := b) hn q 6 (by decide)
  unfold pCov
  rw [this]
  exact ⟨fun h i hi => h i (by omega) hi, fun h i _ hi => h i hi⟩
theorem pCov_self (a : Int) : pCov a a = true := by
  unfold pCov
  have : ∀ k : Nat, pCovF a a k = true := by
    intro k
    induction k with
    | zero => rfl
    | succ k ih => rw [pCovF]; split; rfl; rw [if_pos rfl]; exact ih
  exact this 6
theorem s_names {p : Int} (hw : pW p) : F_names p = some (pNm p) := by
  obtain ⟨n, hn, hnm, q⟩ := pW_nm hw
  have lp : ∀ (k i : Nat), i + k = n → F_names_2 p (i : Int) = some (n : Int) := by
    intro k
    induction k with
    | zero =>
      intro i hi
      rw [eq_names_2]
      by_cases h6 : (i : Int) < 6
      · rw [if_pos h6]
        simp (disch := omega) only [gw32_id]
        rw [pg_ofs hw.1 hw.2.1 (by omega), if_pos ((q i (by omega)).mpr (by omega))]
        simp only [Option.some.injEq]; omega
      · rw [if_neg h6]
        simp only [Option.some.injEq]; omega
    | succ k ih =>
      intro i hi
      rw [eq_names_2, if_pos (by omega)]
      simp (disch := omega) only [gw32_id]
      rw [pg_ofs hw.1 hw.2.1 (by omega), if_neg (fun e => by have := (q i (by omega)).mp e; omega)]
      exact ih (i + 1) (by omega)
  rw [eq_names, hnm]
  exact lp n 0 (by omega)
theorem s_begins {a b : Int} (ha : pW a) (hb : pW b) : F_begins a b = some (bI (decide (a ≠ b) && pCov a b)) := by
  obtain ⟨n, hn, hnm, q⟩ := pW_nm ha
  obtain ⟨m, hm, hmm, r⟩ := pW_nm hb
  rw [eq_begins, gI_bb (s_names ha), gI_bb (s_names hb), hnm, hmm]
  simp (disch := omega) only [gw32_id]
  rw [pq_of ha.1 ha.2.1 hn, pq_of hb.1 hb.2.1 hn]
  have he := pq_eq ⟨ha.1, ha.2.1⟩ ⟨hb.1, hb.2.1⟩ n hn
  have hc := pCov_iff (b := b) hn q
  by_cases h1 : (n : Int) < m
  · rw [if_pos h1]
    have hab : a ≠ b := fun e => by rw [e, hmm] at hnm; omega
    by_cases h2 : pq b n = pq a n
    · rw [if_pos h2, hc.mpr (he.mp h2), decide_eq_true hab]; rfl
    · rw [if_neg h2]
      have : pCov a b = false := by
        cases hx : pCov a b with
        | false => rfl
        | true => exact absurd (he.mpr (hc.mp hx)) h2
      rw [this, Bool.and_false]; rfl
  · rw [if_neg h1]
    cases hx : pCov a b with
    | false => rw [Bool.and_false]; rfl
    | true =>
      have hd := hc.mp hx
      have hmn : m = n := by
        rcases Nat.lt_or_ge m n with z | z
        · have e1 := (r m (by omega)).mpr (Nat.le_refl _)
          rw [← hd m z] at e1
          have := (q m (by omega)).mp e1
          omega
        · omega
      have : a = b := pg_ext ⟨ha.1, ha.2.1⟩ ⟨hb.1, hb.2.1⟩ (fun i hi => by
        by_cases c : i < n
        · exact hd i c
        · rw [(q i hi).mpr (by omega), (r i hi).mpr (by omega)])
      rw [decide_eq_false (fun z => z this)]; rfl
theorem s_isAtOrBelow {p w : Int} (hp : pW p) (hw : pW w) : F_isAtOrBelow p w = some (bI (pCov w p)) := by
  rw [eq_isAtOrBelow]
  by_cases h : p = w
  · rw [if_pos h, h, pCov_self]; rfl
  · rw [if_neg h, gI_bb (s_begins hw hp), (decide_eq_true (fun z => h z.symm) : decide (w ≠ p) = true), Bool.true_and]
    cases pCov w p <;> rfl
theorem s_digits {x : Int} (h0 : 0 ≤ x) (h1 : x < 10000000) : F_digits x = some (dgN 6 x) := by
  have lp : ∀ (k : Nat) (n v : Int), 0 ≤ v → v < 10 * (10 ^ k : Nat) → k ≤ 6 → 0 ≤ n → n + (k : Int) ≤ 100 → F_digits_4 x n v = some (n + dgN k v) := by
    intro k
    induction k with
    | zero =>
      intro n v v0 v1 _ n0 n1
      rw [eq_digits_4, if_neg (by omega), dgN, Int.add_zero]
    | succ k ih =>
      intro n v v0 v1 hk n0 n1
      have hp : (10 ^ k : Nat) ≤ 10 ^ 5 := Nat.pow_le_pow_right (by decide) (by omega)
      rw [Nat.pow_succ] at v1
      have v2 : v < 100000000 := by omega
      rw [eq_digits_4, dgN]
      by_cases h9 : (9 : Int) < v
      · rw [if_pos h9, if_neg (by omega), gdiv_10 v0 (by omega), gw32_id (by omega) (by omega), ih (n + 1) (v / 10) (by omega) (by omega) (by omega) (by omega) (by omega)]
        congr 1; omega
      · rw [if_neg h9, if_pos (by omega), Int.add_zero]
  rw [eq_digits, lp 6 0 x h0 (by omega) (by decide) (by decide) (by decide), Int.zero_add]
