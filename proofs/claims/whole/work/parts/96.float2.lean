-- ==== floats: the bits of a float as the class comes to them
theorem gU_gdb (z : UInt64) : gU64 (gdb z) = z := by unfold gU64 gdb; rw [Int.toNat_natCast, UInt64.ofNat_toNat]
theorem gu_gfl (z : UInt32) : gu (gfl z) = z := by unfold gu gfl; rw [Int.toNat_natCast, UInt32.ofNat_toNat]
def dBs (x : Int) (d : Jvm.FP.Core.Datum) : Prop := Jvm.FP.Core.decode dF (gU64 x).toNat = d
theorem u64n {n : Nat} (h : n < 2 ^ 64) : (UInt64.ofNat n).toNat = n := by show (BitVec.ofNat 64 n).toNat = n; rw [BitVec.toNat_ofNat]; exact Nat.mod_eq_of_lt h
theorem vf64 {n : Nat} (h : n < 2047 * 2 ^ 52) : vf_n64 (UInt64.ofNat n) := by
  show UInt64.ofNat n &&& 0x7fffffffffffffff ≤ (0x7ff0000000000000 : UInt64)
  rw [UInt64.le_iff_toNat_le, UInt64.toNat_and, u64n (by omega)]
  exact Nat.le_trans Nat.and_le_left (by show n ≤ 9218868437227405312; omega)
theorem dBs_of {m : Nat} {k : Int} (h : 0 < m) (h53 : m < 2 ^ 53) (h1 : -900 ≤ k) (h2 : k ≤ 900) : dBs (gdb (UInt64.ofNat (Jvm.FP.Core.encode dF (dD m k)))) (dD m k) ∧ vf_n64 (UInt64.ofNat (Jvm.FP.Core.encode dF (dD m k))) := by
  obtain ⟨a, b⟩ := dc_en h h53 h1 h2
  refine ⟨?_, vf64 b⟩
  unfold dBs
  rw [gU_gdb, u64n (by omega)]
  exact a
/-- times a power of two -/
theorem dm_pow {x : Int} {m : Nat} {k : Int} {z : UInt64} {r : Int} (hx : dBs x (dD m k)) (hz : Jvm.FP.Core.decode dF z.toNat = .fin false (2 ^ 52) (r - 52)) (h : 0 < m) (h53 : m < 2 ^ 53) (h1 : -900 ≤ k + r) (h2 : k + r ≤ 900) : dBs (gdb (FP.dmul (gU64 x) (gU64 (gdb z)))) (dD m (k + r)) ∧ vf_n64 (FP.dmul (gU64 x) (gU64 (gdb z))) := by
  have e : FP.dmul (gU64 x) (gU64 (gdb z)) = UInt64.ofNat (Jvm.FP.Core.encode dF (dD m (k + r))) := by
    rw [gU_gdb]
    show UInt64.ofNat (Jvm.FP.Core.encode dF (Jvm.FP.Core.round dF (Jvm.FP.Core.exactProduct (Jvm.FP.Core.decode dF (gU64 x).toNat) (Jvm.FP.Core.decode dF z.toNat)))) = _
    rw [hx, hz]
    show UInt64.ofNat (Jvm.FP.Core.encode dF (Jvm.FP.Core.roundRatio dF false (m * 2 ^ dJ m * 2 ^ 52) 1 (k - (dJ m : Int) + (r - 52)))) = _
    rw [Nat.mul_assoc, ← Nat.pow_add, rr_ex h h53 (k := k + r) (by omega) h1 h2]
  rw [e]
  exact dBs_of h h53 h1 h2
theorem d1 : Jvm.FP.Core.decode dF (gU64 (gdb FP.dconst1)).toNat = .fin false (2 ^ 52) (-52) := by decide +kernel
theorem d2c : Jvm.FP.Core.decode dF (4611686018427387904 : UInt64).toNat = .fin false (2 ^ 52) (1 - 52) := by decide +kernel
theorem d23c : Jvm.FP.Core.decode dF (4710765210229538816 : UInt64).toNat = .fin false (2 ^ 52) (23 - 52) := by decide +kernel
theorem cv_lt {a b : Int} : (Op.cmpValue (some (compare a b)) .g).toInt < 0 ↔ a < b := by
  rcases Int.lt_trichotomy a b with h | h | h
  · rw [Int.compare_eq_lt.mpr h]; exact ⟨fun _ => h, fun _ => by decide⟩
  · rw [Int.compare_eq_eq.mpr h]; exact ⟨fun w => absurd w (by decide), fun w => by omega⟩
  · rw [Int.compare_eq_gt.mpr h]; exact ⟨fun w => absurd w (by decide), fun w => by omega⟩
theorem cv_gt {a b : Int} : (0 : Int) < (Op.cmpValue (some (compare a b)) .g).toInt ↔ b < a := by
  rcases Int.lt_trichotomy a b with h | h | h
  · rw [Int.compare_eq_lt.mpr h]; exact ⟨fun w => absurd w (by decide), fun w => by omega⟩
  · rw [Int.compare_eq_eq.mpr h]; exact ⟨fun w => absurd w (by decide), fun w => by omega⟩
  · rw [Int.compare_eq_gt.mpr h]; exact ⟨fun _ => h, fun _ => by decide⟩
theorem dc_one {x : Int} {m : Nat} {k : Int} (hx : dBs x (dD m k)) (h : 0 < m) (h53 : m < 2 ^ 53) : (Op.cmpValue (FP.dcmp (gU64 x) (gU64 (gdb FP.dconst1))) .g).toInt < 0 ↔ (m.log2 : Int) + k < 0 := by
  obtain ⟨c1, c2, c3⟩ := dJ_sp h h53
  have e : FP.dcmp (gU64 x) (gU64 (gdb FP.dconst1)) = some (compare (Jvm.FP.Core.signed false (Jvm.FP.Core.inUnits (m * 2 ^ dJ m) (k - (dJ m : Int)) (min (k - (dJ m : Int)) (-52)))) (Jvm.FP.Core.signed false (Jvm.FP.Core.inUnits (2 ^ 52) (-52) (min (k - (dJ m : Int)) (-52))))) := by
    show Jvm.FP.Core.order (Jvm.FP.Core.decode dF (gU64 x).toNat) (Jvm.FP.Core.decode dF (gU64 (gdb FP.dconst1)).toNat) = _
    rw [hx, d1]; rfl
  rw [e, cv_lt]
  have hj : (dJ m : Int) = 52 - (m.log2 : Int) := by unfold dJ; omega
  generalize m * 2 ^ dJ m = c at c2 c3 ⊢
  generalize hq : k - (dJ m : Int) = q
  show ((c * 2 ^ (q - min q (-52)).toNat : Nat) : Int) < ((2 ^ 52 * 2 ^ (-52 - min q (-52)).toNat : Nat) : Int) ↔ _
  by_cases w : q < -52
  · rw [show (q - min q (-52)).toNat = 0 by omega]
    obtain ⟨d, hd⟩ : ∃ d : Nat, (-52 - min q (-52)).toNat = d + 1 := ⟨(-52 - min q (-52)).toNat - 1, by omega⟩
    rw [hd]
    have : 2 ^ 53 ≤ 2 ^ 52 * 2 ^ (d + 1) := by rw [← Nat.pow_add]; exact Nat.pow_le_pow_right (by decide) (by omega)
    refine ⟨fun _ => by omega, fun _ => ?_⟩
    have : c * 2 ^ 0 < 2 ^ 52 * 2 ^ (d + 1) := by rw [Nat.pow_zero, Nat.mul_one]; exact Nat.lt_of_lt_of_le c3 this
    exact_mod_cast this
  · rw [show (-52 - min q (-52)).toNat = 0 by omega]
    refine ⟨fun z => ?_, fun z => by omega⟩
    have z2 : c * 2 ^ (q - min q (-52)).toNat < 2 ^ 52 * 2 ^ 0 := by exact_mod_cast z
    have : c * 1 ≤ c * 2 ^ (q - min q (-52)).toNat := Nat.mul_le_mul_left _ (Nat.two_pow_pos _)
    omega
/-- one and a part of it, less one -/
theorem ds_one {x : Int} {T : Nat} (hT : T < 2 ^ 23) (hx : dBs x (dD (2 ^ 23 + T) (-23))) : (T = 0 → dBs (gdb (FP.dsub (gU64 x) (gU64 (gdb FP.dconst1)))) (.fin false 0 (-1074))) ∧ (0 < T → dBs (gdb (FP.dsub (gU64 x) (gU64 (gdb FP.dconst1)))) (dD T (-23))) ∧ vf_n64 (FP.dsub (gU64 x) (gU64 (gdb FP.dconst1))) := by
  have hl : (2 ^ 23 + T).log2 = 23 := lg_of (by omega) (by omega)
  have hJ : dJ (2 ^ 23 + T) = 29 := by unfold dJ; rw [hl]
  have e : FP.dsub (gU64 x) (gU64 (gdb FP.dconst1)) = UInt64.ofNat (Jvm.FP.Core.encode dF (Jvm.FP.Core.roundRatio dF false (T * 2 ^ 29) 1 (-52))) := by
    show UInt64.ofNat (Jvm.FP.Core.encode dF (Jvm.FP.Core.round dF (Jvm.FP.Core.exactSum (Jvm.FP.Core.decode dF (gU64 x).toNat) (Jvm.FP.Core.negate (Jvm.FP.Core.decode dF (gU64 (gdb FP.dconst1)).toNat))))) = _
    rw [hx, d1]
    unfold dD
    rw [hJ]
    have hs : Jvm.FP.Core.sumUnits false ((2 ^ 23 + T) * 2 ^ 29) (-23 - ((29 : Nat) : Int)) true (2 ^ 52) (-52) (-52) = ((T * 2 ^ 29 : Nat) : Int) := by
      show (((2 ^ 23 + T) * 2 ^ 29 * 2 ^ 0 : Nat) : Int) + -((2 ^ 52 * 2 ^ 0 : Nat) : Int) = _
      omega
    show UInt64.ofNat (Jvm.FP.Core.encode dF (Jvm.FP.Core.round dF (.fin (Jvm.FP.Core.sumSign false true (Jvm.FP.Core.sumUnits false ((2 ^ 23 + T) * 2 ^ 29) (-23 - ((29 : Nat) : Int)) true (2 ^ 52) (-52) (-52))) (Jvm.FP.Core.sumUnits false ((2 ^ 23 + T) * 2 ^ 29) (-23 - ((29 : Nat) : Int)) true (2 ^ 52) (-52) (-52)).natAbs (-52)))) = _
    rw [hs, Int.natAbs_natCast]
    have hg : Jvm.FP.Core.sumSign false true ((T * 2 ^ 29 : Nat) : Int) = false := by
      unfold Jvm.FP.Core.sumSign
      split
      · rfl
      · exact decide_eq_false (by omega)
    rw [hg]
    rfl
  rw [e]
  refine ⟨fun z => ?_, fun z => ?_, ?_⟩
  · rw [z]; unfold dBs; rw [gU_gdb]; decide +kernel
  · rw [rr_ex z (by omega) (k := -23) (by decide) (by decide) (by decide)]
    exact (dBs_of z (by omega) (by decide) (by decide)).1
  · by_cases z : T = 0
    · rw [z]; show _ &&& _ ≤ _; decide +kernel
    · rw [rr_ex (by omega) (by omega) (k := -23) (by decide) (by decide) (by decide)]
      exact (dBs_of (by omega) (by omega) (by decide) (by decide)).2
/-- a whole number -/
theorem di_T {x : Int} {T : Nat} (hT : T < 2 ^ 23) (h0 : 0 < T) (hx : dBs x (dD T 0)) : (FP.d2i (gU64 x)).toInt = (T : Int) := by
  show (Jvm.FP.Core.toI (Jvm.FP.Core.decode dF (gU64 x).toNat)).toInt = _
  rw [hx]
  show (Int32.ofInt (max (-2147483648) (min 2147483647 (((T * 2 ^ dJ T * 2 ^ (0 - (dJ T : Int)).toNat / 2 ^ (-(0 - (dJ T : Int))).toNat : Nat) : Int))))).toInt = _
  rw [show (0 - (dJ T : Int)).toNat = 0 by omega, show (-(0 - (dJ T : Int))).toNat = dJ T by omega, Nat.pow_zero, Nat.mul_one, Nat.mul_div_cancel _ (Nat.two_pow_pos _)]
  rw [show max (-2147483648) (min 2147483647 (T : Int)) = (T : Int) by omega]
  exact gw32_id (by omega) (by omega)
/-- the digits and the exponent of a float -/
def fM (n : Nat) : Nat := if n < 2 ^ 23 then n else 2 ^ 23 + n % 2 ^ 23
def fK (n : Nat) : Int := if n < 2 ^ 23 then -149 else ((n / 2 ^ 23 : Nat) : Int) - 150
theorem fD {n : Nat} (h : n ≤ 0x3f800000) : Jvm.FP.Core.decode Jvm.FP.Core.b32 n = .fin false (fM n) (fK n) := by
  have h1 : Jvm.FP.Core.fieldE Jvm.FP.Core.b32 n = n / 2 ^ 23 := by show n / 2 ^ 23 % 2 ^ 8 = n / 2 ^ 23; omega
  have h2 : Jvm.FP.Core.fieldT Jvm.FP.Core.b32 n = n % 2 ^ 23 := rfl
  have h3 : Jvm.FP.Core.fieldS Jvm.FP.Core.b32 n = false := by
    show (n / 2 ^ 23 / 2 ^ 8 % 2 == 1) = false
    rw [show n / 2 ^ 23 / 2 ^ 8 = 0 by omega]; rfl
  unfold Jvm.FP.Core.decode fM fK
  rw [h1, h2, h3, if_neg (show ¬ n / 2 ^ 23 = Jvm.FP.Core.b32.exps - 1 by show ¬ n / 2 ^ 23 = 2 ^ 8 - 1; omega)]
  by_cases c : n < 2 ^ 23
  · rw [if_pos (by omega), if_pos c, if_pos c]
    show Jvm.FP.Core.Datum.fin false (n % 2 ^ 23) (-149) = _
    rw [show n % 2 ^ 23 = n by omega]
  · rw [if_neg (by omega), if_neg c, if_neg c]
    show Jvm.FP.Core.Datum.fin false (2 ^ 23 + n % 2 ^ 23) (-149 + (((n / 2 ^ 23 : Nat) : Int) - 1)) = _
    rw [show -149 + (((n / 2 ^ 23 : Nat) : Int) - 1) = ((n / 2 ^ 23 : Nat) : Int) - 150 by omega]
theorem fM_sp {n : Nat} (h : n ≤ 0x3f800000) (h0 : 0 < n) : 0 < fM n ∧ fM n < 2 ^ 24 ∧ -149 ≤ fK n ∧ fK n ≤ -23 := by
  unfold fM fK
  split <;> omega
/-- what is a float from 0 to 1 -/
def f01 (x : Int) (n : Nat) : Prop := (gu x).toNat = n ∧ n ≤ 0x3f800000
theorem fc_zero {x : Int} {n : Nat} (hx : f01 x n) : (0 : Int) < (Op.cmpValue (FP.fcmp (gu x) (gu (gfl FP.fconst0))) .g).toInt ↔ 0 < n := by
  have dz : Jvm.FP.Core.decode Jvm.FP.Core.b32 (gu (gfl FP.fconst0)).toNat = .fin false 0 (-149) := by decide +kernel
  have e : FP.fcmp (gu x) (gu (gfl FP.fconst0)) = some (compare (Jvm.FP.Core.signed false (Jvm.FP.Core.inUnits (fM n) (fK n) (min (fK n) (-149)))) (Jvm.FP.Core.signed false (Jvm.FP.Core.inUnits 0 (-149) (min (fK n) (-149))))) := by
    show Jvm.FP.Core.order (Jvm.FP.Core.decode Jvm.FP.Core.b32 (gu x).toNat) (Jvm.FP.Core.decode Jvm.FP.Core.b32 (gu (gfl FP.fconst0)).toNat) = _
    rw [hx.1, dz, fD hx.2]; rfl
  rw [e, cv_gt]
  show ((0 * 2 ^ (-149 - min (fK n) (-149)).toNat : Nat) : Int) < ((fM n * 2 ^ (fK n - min (fK n) (-149)).toNat : Nat) : Int) ↔ _
  rw [Nat.zero_mul]
  by_cases h0 : 0 < n
  · have := (fM_sp hx.2 h0).1
    have p := Nat.mul_pos this (Nat.two_pow_pos (fK n - min (fK n) (-149)).toNat)
    exact ⟨fun _ => h0, fun _ => by exact_mod_cast p⟩
  · have : fM n = 0 := by unfold fM; rw [if_pos (by omega)]; omega
    rw [this, Nat.zero_mul]
    exact ⟨fun w => absurd w (by decide), fun w => absurd w h0⟩
theorem f2d_is {x : Int} {n : Nat} (hx : f01 x n) (h0 : 0 < n) : dBs (gdb (FP.f2d (gu x))) (dD (fM n) (fK n)) ∧ vf_n64 (FP.f2d (gu x)) := by
  obtain ⟨a, b, c, d⟩ := fM_sp hx.2 h0
  have e : FP.f2d (gu x) = UInt64.ofNat (Jvm.FP.Core.encode dF (dD (fM n) (fK n))) := by
    have hnan : Jvm.FP.Core.fIsNaN (gu x) = false := by
      show decide (Jvm.FP.Core.decode Jvm.FP.Core.b32 (gu x).toNat = .nan) = false
      rw [hx.1, fD hx.2]; rfl
    unfold FP.f2d
    rw [hnan, if_neg (by decide)]
    show UInt64.ofNat (Jvm.FP.Core.encode dF (Jvm.FP.Core.round dF (Jvm.FP.Core.decode Jvm.FP.Core.b32 (gu x).toNat))) = _
    rw [hx.1, fD hx.2]
    show UInt64.ofNat (Jvm.FP.Core.encode dF (Jvm.FP.Core.roundRatio dF false (fM n) 1 (fK n))) = _
    have := rr_ex (m := fM n) (d := 0) (e := fK n) (k := fK n) a (by omega) (by omega) (by omega) (by omega)
    rw [Nat.pow_zero, Nat.mul_one] at this
    rw [this]
  rw [e]
  exact dBs_of a (by omega) (by omega) (by omega)
