theorem gnz {x : Int} (h : x = 0 ∨ x = 1) : narrow .boolean (.int (Int32.ofInt x)) = .int (Int32.ofInt x) := by
  rcases h with rfl | rfl <;> rfl
theorem gfz {x : Int} (h : x = 0 ∨ x = 1) (G : gG) : narrow .boolean (gc G (0, x)) = gc G (0, x) ∧ fits .boolean (gc G (0, x)) = true := by
  rcases h with rfl | rfl <;> exact ⟨rfl, rfl⟩
theorem gFree_obj {c f : Nat} (h : gOff c f = none) : gFree (0, c) (f : Int) := by
  intro j hj
  have : j = f := by omega
  subst this
  exact h
-- ==== bits of numbers that are not below 0
theorem gi_nI {x : Int} (h : 0 ≤ x) : Int32.ofInt x = nI x.toNat := by
  rw [show x = ((x.toNat : Nat) : Int) by omega]
  rfl
theorem nI_int {n : Nat} (h : n < 2 ^ 31) : (nI n).toInt = (n : Int) := nI_toInt h
theorem gand_mask {x : Int} (h : 0 ≤ x) (h2 : x < 2147483648) (k : Nat) (m : Int) (hm : (Int32.ofInt m).toBitVec.toNat = 2 ^ k - 1) (hk : k ≤ 31) : gand x m = x % (2 ^ k : Nat) := by
  unfold gand
  rw [gi_nI h, pk_andN (by omega) k hm, nI_int (Nat.lt_of_le_of_lt (Nat.mod_le _ _) (by omega)), Int.natCast_emod, Int.toNat_of_nonneg h]
theorem gshl_mul {x : Int} (h : 0 ≤ x) (s : Int) (k : Nat) (hs : ((Int32.ofInt s &&& 31).toBitVec.smod 32).toNat = k) (h2 : x * (2 ^ k : Nat) < 2147483648) : gshl x s = x * (2 ^ k : Nat) := by
  have h3 : x.toNat * 2 ^ k < 2 ^ 31 := by
    have e : ((x.toNat * 2 ^ k : Nat) : Int) = x * (2 ^ k : Nat) := by rw [Int.natCast_mul, Int.toNat_of_nonneg h]
    omega
  unfold gshl
  rw [gi_nI h, pk_shlN _ k hs (by omega), nI_int h3, Int.natCast_mul, Int.toNat_of_nonneg h]
theorem gushr_div {x : Int} (h : 0 ≤ x) (hx : x < 2147483648) (s : Int) (k : Nat) (hs : (((Int32.ofInt s).toUInt32 &&& Int32.toUInt32 31).toBitVec % 32).toNat = k) : gushr x s = x / (2 ^ k : Nat) := by
  unfold gushr
  rw [gi_nI h, pk_ushrN (by omega) _ k hs, nI_int (Nat.lt_of_le_of_lt (Nat.div_le_self _ _) (by omega)), Int.natCast_ediv, Int.toNat_of_nonneg h]
theorem gshr_div {x : Int} (h : 0 ≤ x) (hx : x < 2147483648) (s : Int) (k : Nat) (hs : ((Int32.ofInt s &&& 31).toBitVec.smod 32).toNat = k) : gshr x s = x / (2 ^ k : Nat) := by
  unfold gshr
  rw [gi_nI h, pk_shrN (by omega) _ k hs, nI_int (Nat.lt_of_le_of_lt (Nat.div_le_self _ _) (by omega)), Int.natCast_ediv, Int.toNat_of_nonneg h]
theorem gor_nat {a b : Int} (ha : 0 ≤ a) (hb : 0 ≤ b) (ha2 : a < 2147483648) (hb2 : b < 2147483648) : gor a b = ((a.toNat ||| b.toNat : Nat) : Int) := by
  have h3 : a.toNat ||| b.toNat < 2 ^ 31 := Nat.or_lt_two_pow (by omega) (by omega)
  unfold gor
  rw [gi_nI ha, gi_nI hb]
  have e : nI a.toNat ||| nI b.toNat = nI (a.toNat ||| b.toNat) := by
    apply Int32.toBitVec_inj.mp
    apply BitVec.eq_of_toNat_eq
    rw [Int32.toBitVec_or, BitVec.toNat_or, pk_tn (by omega), pk_tn (by omega), pk_tn (by omega)]
  rw [e, nI_int h3]
theorem gor_add {a b : Int} (k : Nat) (ha : 0 ≤ a) (hb : 0 ≤ b) (ha2 : a < 2147483648) (hb2 : b < (2 ^ k : Nat)) (hk : k ≤ 31) (hd : a % (2 ^ k : Nat) = 0) : gor a b = a + b := by
  have hpos : (0 : Int) < (2 ^ k : Nat) := by exact_mod_cast Nat.two_pow_pos k
  have hkk : (2 ^ k : Nat) ≤ 2 ^ 31 := Nat.pow_le_pow_right (by decide) hk
  rw [gor_nat ha hb ha2 (by omega)]
  obtain ⟨q, hq⟩ := Int.dvd_of_emod_eq_zero hd
  have hq0 : 0 ≤ q := by
    rcases Int.lt_or_le q 0 with z | z
    · have : (2 ^ k : Nat) * q < 0 := Int.mul_neg_of_pos_of_neg hpos z
      omega
    · exact z
  have e : a.toNat = 2 ^ k * q.toNat := by
    have : (a.toNat : Int) = ((2 ^ k * q.toNat : Nat) : Int) := by rw [Int.natCast_mul, Int.toNat_of_nonneg ha, Int.toNat_of_nonneg hq0]; exact hq
    exact_mod_cast this
  rw [e, ← Nat.two_pow_add_eq_or_of_lt (by omega : b.toNat < 2 ^ k), ← e]
  omega
theorem gOK_o {sh : gS} {M : gM} {a i v : Int} {c f : Nat} (h : gOK sh M) (hs : gsh sh a = some (0, c)) (hi : i = (f : Int)) (ho : gOff c f = none) : gOK sh (gU M a i v) := by
  subst hi
  exact gOK_U h hs (gFree_obj ho)
theorem gOK_i {sh : gS} {M : gM} {a i v : Int} {n : Nat} (h : gOK sh M) (hs : gsh sh a = some (1, n)) : gOK sh (gU M a i v) := gOK_U h hs trivial
theorem gOK_b {sh : gS} {M : gM} {a i v : Int} {n : Nat} (h : gOK sh M) (hs : gsh sh a = some (2, n)) : gOK sh (gU M a i v) := gOK_U h hs trivial
theorem gOK_z {sh : gS} {M : gM} {a i v : Int} {n : Nat} (h : gOK sh M) (hs : gsh sh a = some (3, n)) : gOK sh (gU M a i v) := gOK_U h hs trivial
theorem gOK_l {sh : gS} {M : gM} {a i v : Int} {n : Nat} (h : gOK sh M) (hs : gsh sh a = some (4, n)) : gOK sh (gU M a i v) := gOK_U h hs trivial
theorem gOK_f {sh : gS} {M : gM} {a i v : Int} {n : Nat} (h : gOK sh M) (hs : gsh sh a = some (5, n)) : gOK sh (gU M a i v) := gOK_U h hs trivial
