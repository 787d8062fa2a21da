-- ==== floats: exact doubles
abbrev dF : Jvm.FP.Core.Fmt := Jvm.FP.Core.b64
theorem lg_sp {m : Nat} (h : 0 < m) : 2 ^ m.log2 ≤ m ∧ m < 2 ^ (m.log2 + 1) := ⟨Nat.log2_self_le (by omega), Nat.lt_log2_self⟩
theorem lg_of {m k : Nat} (h1 : 2 ^ k ≤ m) (h2 : m < 2 ^ (k + 1)) : m.log2 = k := by
  have h0 : 0 < m := Nat.lt_of_lt_of_le (Nat.two_pow_pos k) h1
  obtain ⟨a, b⟩ := lg_sp h0
  have c1 : k < m.log2 + 1 := (Nat.pow_lt_pow_iff_right (by decide : 1 < 2)).mp (Nat.lt_of_le_of_lt h1 b)
  have c2 : m.log2 < k + 1 := (Nat.pow_lt_pow_iff_right (by decide : 1 < 2)).mp (Nat.lt_of_le_of_lt a h2)
  omega
theorem lg_mul {m : Nat} (h : 0 < m) (d : Nat) : (m * 2 ^ d).log2 = m.log2 + d := by
  obtain ⟨a, b⟩ := lg_sp h
  refine lg_of ?_ ?_
  · rw [Nat.pow_add]; exact Nat.mul_le_mul_right _ a
  · rw [show m.log2 + d + 1 = (m.log2 + 1) + d by omega, Nat.pow_add]; exact Nat.mul_lt_mul_of_pos_right b (Nat.two_pow_pos d)
theorem ld_one {m : Nat} (h : 0 < m) : Jvm.FP.Core.leading m 1 = (m.log2 : Int) := by
  obtain ⟨a, -⟩ := lg_sp h
  unfold Jvm.FP.Core.leading
  simp only [show Nat.log2 1 = 0 from by decide]
  rw [if_pos]
  · omega
  · rw [show ((m.log2 : Int) - ((0 : Nat) : Int)).toNat = m.log2 by omega, show (-((m.log2 : Int) - ((0 : Nat) : Int))).toNat = 0 by omega]
    omega
theorem nr_one (n : Nat) : Jvm.FP.Core.nearest n 1 = n := by
  unfold Jvm.FP.Core.nearest
  rw [Nat.mod_one, if_pos (by decide), Nat.div_one]
theorem nr_mul (a d : Nat) (h : 0 < d) : Jvm.FP.Core.nearest (a * d) d = a := by
  unfold Jvm.FP.Core.nearest
  rw [Nat.mul_mod_left, if_pos (by omega), Nat.mul_div_cancel _ h]
/-- how far a number is pushed left to have 53 digits -/
def dJ (m : Nat) : Nat := 52 - m.log2
/-- a number that a double holds as it is -/
def dD (m : Nat) (k : Int) : Jvm.FP.Core.Datum := .fin false (m * 2 ^ dJ m) (k - (dJ m : Int))
theorem dJ_sp {m : Nat} (h : 0 < m) (h53 : m < 2 ^ 53) : m.log2 ≤ 52 ∧ 2 ^ 52 ≤ m * 2 ^ dJ m ∧ m * 2 ^ dJ m < 2 ^ 53 := by
  obtain ⟨a, b⟩ := lg_sp h
  have c : m.log2 < 53 := (Nat.pow_lt_pow_iff_right (by decide : 1 < 2)).mp (Nat.lt_of_le_of_lt a h53)
  unfold dJ
  refine ⟨by omega, ?_, ?_⟩
  · calc 2 ^ 52 = 2 ^ m.log2 * 2 ^ (52 - m.log2) := by rw [← Nat.pow_add]; congr 1; omega
      _ ≤ m * 2 ^ (52 - m.log2) := Nat.mul_le_mul_right _ a
  · calc m * 2 ^ (52 - m.log2) < 2 ^ (m.log2 + 1) * 2 ^ (52 - m.log2) := Nat.mul_lt_mul_of_pos_right b (Nat.two_pow_pos _)
      _ = 2 ^ 53 := by rw [← Nat.pow_add]; congr 1; omega
theorem rr_ex {m d : Nat} {e k : Int} (h : 0 < m) (h53 : m < 2 ^ 53) (hk : k = e + (d : Int)) (h1 : -900 ≤ k) (h2 : k ≤ 900) : Jvm.FP.Core.roundRatio dF false (m * 2 ^ d) 1 e = dD m k := by
  obtain ⟨c1, c2, c3⟩ := dJ_sp h h53
  have hne : m * 2 ^ d ≠ 0 := Nat.ne_of_gt (Nat.mul_pos h (Nat.two_pow_pos d))
  unfold Jvm.FP.Core.roundRatio
  rw [if_neg hne]
  have hq : Jvm.FP.Core.quantum dF (m * 2 ^ d) 1 e = k - (dJ m : Int) := by
    unfold Jvm.FP.Core.quantum
    rw [ld_one (Nat.mul_pos h (Nat.two_pow_pos d)), lg_mul h]
    show max (-1074 : Int) (((m.log2 + d : Nat) : Int) + e - ((53 : Int) - 1)) = _
    unfold dJ
    omega
  rw [hq]
  unfold Jvm.FP.Core.roundAt Jvm.FP.Core.unitsNum Jvm.FP.Core.unitsDen
  have hn : Jvm.FP.Core.nearest (m * 2 ^ d * 2 ^ (e - (k - (dJ m : Int))).toNat) (1 * 2 ^ (k - (dJ m : Int) - e).toNat) = m * 2 ^ dJ m := by
    by_cases hc : d ≤ dJ m
    · rw [show (k - (dJ m : Int) - e).toNat = 0 by omega, show (e - (k - (dJ m : Int))).toNat = dJ m - d by omega, Nat.pow_zero, Nat.mul_one, nr_one, Nat.mul_assoc, ← Nat.pow_add, show d + (dJ m - d) = dJ m by omega]
    · rw [show (e - (k - (dJ m : Int))).toNat = 0 by omega, show (k - (dJ m : Int) - e).toNat = d - dJ m by omega, Nat.pow_zero, Nat.mul_one, Nat.one_mul]
      have : m * 2 ^ d = m * 2 ^ dJ m * 2 ^ (d - dJ m) := by rw [Nat.mul_assoc, ← Nat.pow_add, show dJ m + (d - dJ m) = d by omega]
      rw [this, nr_mul _ _ (Nat.two_pow_pos _)]
  rw [hn]
  unfold Jvm.FP.Core.settle
  rw [if_pos (show m * 2 ^ dJ m < 2 ^ dF.p from c3)]
  unfold Jvm.FP.Core.bound
  rw [if_pos (by show k - (dJ m : Int) ≤ (1023 : Int) - 53 + 1; omega)]
  rfl
theorem dc_en {m : Nat} {k : Int} (h : 0 < m) (h53 : m < 2 ^ 53) (h1 : -900 ≤ k) (h2 : k ≤ 900) : Jvm.FP.Core.decode dF (Jvm.FP.Core.encode dF (dD m k)) = dD m k ∧ Jvm.FP.Core.encode dF (dD m k) < 2047 * 2 ^ 52 := by
  obtain ⟨c1, c2, c3⟩ := dJ_sp h h53
  have hj : dJ m ≤ 52 := by unfold dJ; omega
  unfold dD
  generalize hc : m * 2 ^ dJ m = c at c2 c3
  generalize hqq : k - (dJ m : Int) = q
  have q1 : -960 ≤ q := by omega
  have q2 : q ≤ 900 := by omega
  have en : Jvm.FP.Core.encode dF (.fin false c q) = ((q + 1074).toNat + 1) * 2 ^ 52 + (c - 2 ^ 52) := by
    show (if c < 2 ^ 52 then _ else _) = _
    rw [if_neg (by omega)]
    show (0 * 2 ^ 11 + ((q - -1074).toNat + 1)) * 2 ^ 52 + (c - 2 ^ 52) = _
    rw [show q - -1074 = q + 1074 by omega]
    omega
  rw [en]
  obtain ⟨E, hE⟩ : ∃ E : Nat, (q + 1074).toNat + 1 = E := ⟨_, rfl⟩
  obtain ⟨T, hT⟩ : ∃ T : Nat, c - 2 ^ 52 = T := ⟨_, rfl⟩
  rw [hE, hT]
  have e1 : E < 2047 := by omega
  have t1 : T < 2 ^ 52 := by omega
  have fT : (E * 2 ^ 52 + T) % 2 ^ 52 = T := by omega
  have fE : (E * 2 ^ 52 + T) / 2 ^ 52 = E := by omega
  refine ⟨?_, by omega⟩
  have h1 : Jvm.FP.Core.fieldE dF (E * 2 ^ 52 + T) = E := by show (E * 2 ^ 52 + T) / 2 ^ 52 % 2 ^ 11 = E; rw [fE]; omega
  have h2 : Jvm.FP.Core.fieldT dF (E * 2 ^ 52 + T) = T := fT
  have h3 : Jvm.FP.Core.fieldS dF (E * 2 ^ 52 + T) = false := by
    show ((E * 2 ^ 52 + T) / 2 ^ 52 / 2 ^ 11 % 2 == 1) = false
    rw [fE, show E / 2 ^ 11 = 0 by omega]; rfl
  unfold Jvm.FP.Core.decode
  rw [h1, h2, h3, if_neg (show ¬ E = dF.exps - 1 by show ¬ E = 2 ^ 11 - 1; omega), if_neg (by omega)]
  show Jvm.FP.Core.Datum.fin false (2 ^ 52 + T) (-1074 + ((E : Int) - 1)) = _
  rw [show 2 ^ 52 + T = c by omega, show -1074 + ((E : Int) - 1) = q by omega]
