theorem gnz {x : Int} (h : x = 0 ∨ x = 1) : narrow .boolean (.int (Int32.ofInt x)) = .int (Int32.ofInt x) := by
  rcases h with rfl | rfl <;> rfl
theorem gfz {x : Int} (h : x = 0 ∨ x = 1) (G : gG) : narrow .boolean (gc G (0, x)) = gc G (0, x) ∧ fits .boolean (gc G (0, x)) = true := by
  rcases h with rfl | rfl <;> exact ⟨rfl, rfl⟩
theorem gFree_obj {c f : Nat} (h : gOff c f = none) : gFree (0, c) (f : Int) := by
  intro j hj
  have : j = f := by omega
  subst this
  exact h
-- ==== bits of numbers that are not below 0
theorem gi_nI {x : Int} (h : 0 ≤ x) : Int32.ofInt x = nI x.toNat := by
  rw [show x = ((x.toNat : Nat) : Int) by omega]
  rfl
theorem nI_int {n : Nat} (h : n < 2 ^ 31) : (nI n).toInt = (n : Int) := nI_toInt h
theorem gand_mask {x : Int} (h : 0 ≤ x) (h2 : x < 2147483648) (k : Nat) (m : Int) (hm : (Int32.ofInt m).toBitVec.toNat = 2 ^ k - 1) (hk : k ≤ 31) : gand x m = x % (2 ^ k : Nat) := by
  unfold gand
  rw [gi_nI h, pk_andN (by omega) k hm, nI_int (Nat.lt_of_le_of_lt (Nat.mod_le _ _) (by omega)), Int.natCast_emod, Int.toNat_of_nonneg h]
theorem gshl_mul {x : Int} (h : 0 ≤ x) (s : Int) (k : Nat) (hs : ((Int32.ofInt s &&& 31).toBitVec.smod 32).toNat = k) (h2 : x * (2 ^ k : Nat) < 2147483648) : gshl x s = x * (2 ^ k : Nat) := by
  have h3 : x.toNat * 2 ^ k < 2 ^ 31 := by
    have e : ((x.toNat * 2 ^ k : Nat) : Int) = x * (2 ^ k : Nat) := by rw [Int.natCast_mul, Int.toNat_of_nonneg h]
    omega
  unfold gshl
  rw [gi_nI h, pk_shlN _ k hs (by omega), nI_int h3, Int.natCast_mul, Int.toNat_of_nonneg h]
theorem gushr_div {x : Int} (h : 0 ≤ x) (hx : x < 2147483648) (s : Int) (k : Nat) (hs : (((Int32.ofInt s).toUInt32 &&& Int32.toUInt32 31).toBitVec % 32).toNat = k) : gushr x s = x / (2 ^ k : Nat) := by
  unfold gushr
  rw [gi_nI h, pk_ushrN (by omega) _ k hs, nI_int (Nat.lt_of_le_of_lt (Nat.div_le_self _ _) (by omega)), Int.natCast_ediv, Int.toNat_of_nonneg h]
theorem gshr_div {x : Int} (h : 0 ≤ x) (hx : x < 2147483648) (s : Int) (k : Nat) (hs : ((Int32.ofInt s &&& 31).toBitVec.smod 32).toNat = k) : gshr x s = x / (2 ^ k : Nat) := by
  unfold gshr
  rw [gi_nI h, pk_shrN (by omega) _ k hs, nI_int (Nat.lt_of_le_of_lt (Nat.div_le_self _ _) (by omega)), Int.natCast_ediv, Int.toNat_of_nonneg h]
theorem gor_nat {a b : Int} (ha : 0 ≤ a) (hb : 0 ≤ b) (ha2 : a < 2147483648) (hb2 : b < 2147483648) : gor a b = ((a.toNat ||| b.toNat : Nat) : Int) := by
  have h3 : a.toNat ||| b.toNat < 2 ^ 31 := Nat.or_lt_two_pow (by omega) (by omega)
  unfold gor
  rw [gi_nI ha, gi_nI hb]
  have e : nI a.toNat ||| nI b.toNat = nI (a.toNat ||| b.toNat) := by
    apply Int32.toBitVec_inj.mp
    apply BitVec.eq_of_toNat_eq
    rw [Int32.toBitVec_or, BitVec.toNat_or, pk_tn (by omega), pk_tn (by omega), pk_tn (by omega)]
  rw [e, nI_int h3]
theorem gor_add {a b : Int} (k : Nat) (ha : 0 ≤ a) (hb : 0 ≤ b) (ha2 : a < 2147483648) (hb2 : b < (2 ^ k : Nat)) (hk : k ≤ 31) (hd : a % (2 ^ k : Nat) = 0) : gor a b = a + b := by
  have hpos : (0 : Int) < (2 ^ k : Nat) := by exact_mod_cast Nat.two_pow_pos k
  have hkk : (2 ^ k : Nat) ≤ 2 ^ 31 := Nat.pow_le_pow_right (by decide) hk
  rw [gor_nat ha hb ha2 (by omega)]
  obtain ⟨q, hq⟩ := Int.dvd_of_emod_eq_zero hd
  have hq0 : 0 ≤ q := by
    rcases Int.lt_or_le q 0 with z | z
    · have : (2 ^ k : Nat) * q < 0 := Int.mul_neg_of_pos_of_neg hpos z
      omega
    · exact z
  have e : a.toNat = 2 ^ k * q.toNat := by
    have : (a.toNat : Int) = ((2 ^ k * q.toNat : Nat) : Int) := by rw [Int.natCast_mul, Int.toNat_of_nonneg ha, Int.toNat_of_nonneg hq0]; exact hq
    exact_mod_cast this
  rw [e, ← Nat.two_pow_add_eq_or_of_lt (by omega : b.toNat < 2 ^ k), ← e]
  omega
theorem dX10_find_0 : decode cX10_find 0 = .ok (.iconst 0, 1) := by decide +kernel
theorem dX10_find_1 : decode cX10_find 1 = .ok (.istore_n 2, 1) := by decide +kernel
theorem dX10_find_2 : decode cX10_find 2 = .ok (.iload_n 2, 1) := by decide +kernel
theorem dX10_find_3 : decode cX10_find 3 = .ok (.aload_n 0, 1) := by decide +kernel
theorem dX10_find_4 : decode cX10_find 4 = .ok (.getfield 23, 3) := by decide +kernel
theorem dX10_find_7 : decode cX10_find 7 = .ok (.if_icmp .ge 21, 3) := by decide +kernel
theorem dX10_find_10 : decode cX10_find 10 = .ok (.aload_n 0, 1) := by decide +kernel
theorem dX10_find_11 : decode cX10_find 11 = .ok (.getfield 9, 3) := by decide +kernel
theorem dX10_find_14 : decode cX10_find 14 = .ok (.iload_n 2, 1) := by decide +kernel
theorem dX10_find_15 : decode cX10_find 15 = .ok (.iaload, 1) := by decide +kernel
theorem dX10_find_16 : decode cX10_find 16 = .ok (.iload_n 1, 1) := by decide +kernel
theorem dX10_find_17 : decode cX10_find 17 = .ok (.if_icmp .ne 5, 3) := by decide +kernel
theorem dX10_find_20 : decode cX10_find 20 = .ok (.iload_n 2, 1) := by decide +kernel
theorem dX10_find_21 : decode cX10_find 21 = .ok (.ireturn, 1) := by decide +kernel
theorem dX10_find_22 : decode cX10_find 22 = .ok (.iinc 2 1, 3) := by decide +kernel
theorem dX10_find_25 : decode cX10_find 25 = .ok (.goto (-23), 3) := by decide +kernel
theorem dX10_find_28 : decode cX10_find 28 = .ok (.iconst (-1), 1) := by decide +kernel
theorem dX10_find_29 : decode cX10_find 29 = .ok (.ireturn, 1) := by decide +kernel
/-- a tree at t: its shape -/
def tSh (sh : gS) (t : Int) (n : Nat) : Prop := gsh sh t = some (0, 11) ∧ gsh sh (t + 1) = some (1, n) ∧ gsh sh (t + 2) = some (1, n) ∧ t < 758
/-- the files that stand in it -/
def tAt (M : gM) (t : Int) (fs : List (Int × Int)) : Prop := M t 2 = (fs.length : Int) ∧ ∀ (i : Nat) (f : Int × Int), fs[i]? = some f → M (t + 1) (i : Int) = f.1 ∧ M (t + 2) (i : Int) = f.2
def tFind (w : Int) : List (Int × Int) → Int → Int
  | [], _ => -1
  | f :: r, i => if f.1 = w then i else tFind w r (i + 1)
set_option maxHeartbeats 400000 in
theorem sp_X10_find {sh : gS} {M : gM} {t w : Int} {n : Nat} {fs : List (Int × Int)} (hOK : gOK sh M) (hs : tSh sh t n) (hn : n ≤ 32) (hT : tAt M t fs) (hl : fs.length ≤ n) :
    gC (gr 0 0) yX10_find cX10_find 3 (some (.int)) [(4, t), (0, w)] sh M (gPp sh M (0, tFind w fs 0)) := by
  obtain ⟨hs0, hs1, hs2, hlt⟩ := hs
  refine gC_ofA (lv := [_, _, _]) (by decide +kernel) (Nat.le_of_ble_eq_true rfl) rfl (fun hMw hav => ?_)
  have lp : ∀ (suf : List (Int × Int)) (i : Int), 0 ≤ i → i + (suf.length : Int) = (fs.length : Int) → (∀ (j : Nat) (f : Int × Int), suf[j]? = some f → M (t + 1) (i + (j : Int)) = f.1) → tFind w suf i = tFind w fs 0 →
      gA (gr 0 0) yX10_find cX10_find 3 (some (.int)) (gPp sh M (0, tFind w fs 0)) (0, 0) 2 [(4, t), (0, w), (0, i)] [] sh M := by
    intro suf
    induction suf with
    | nil =>
      intro i h0 hi hm hv
      simp only [List.length_nil] at hi
      refine g_iload_n (q0 := 3) (j := 2) rfl dX10_find_2 rfl ?_
      refine g_aload_n (q0 := 4) (j := 0) rfl dX10_find_3 rfl ?_
      refine g_getf (q0 := 7) (t := 0) (fi := 2) rfl rfl ff_X10_23 dX10_find_4 rfl (by assumption) ?_
      refine g_icmp_ge (q0 := 10) (tgt := 28) rfl dX10_find_7 (by decide) (fun h7 => ?_) (fun h7 => ?_)
      · refine g_iconst (q0 := 29) rfl dX10_find_28 (k := ?_)
        refine g_ireturn dX10_find_29 rfl ⟨Nat.zero_le _, Nat.zero_le _⟩ ?_
        exact ⟨by rw [← hv]; rfl, rfl, rfl⟩
      · exact absurd h7 (by rw [hT.1]; omega)
    | cons f r ih =>
      intro i h0 hi hm hv
      simp only [List.length_cons] at hi
      refine g_iload_n (q0 := 3) (j := 2) rfl dX10_find_2 rfl ?_
      refine g_aload_n (q0 := 4) (j := 0) rfl dX10_find_3 rfl ?_
      refine g_getf (q0 := 7) (t := 0) (fi := 2) rfl rfl ff_X10_23 dX10_find_4 rfl (by assumption) ?_
      refine g_icmp_ge (q0 := 10) (tgt := 28) rfl dX10_find_7 (by decide) (fun h7 => ?_) (fun h7 => ?_)
      · exact absurd h7 (by rw [hT.1]; omega)
      · refine g_aload_n (q0 := 11) (j := 0) rfl dX10_find_10 rfl ?_
        refine g_getp (q0 := 14) (b := t + 1) rfl ff_X10_9 dX10_find_11 rfl hOK (by omega) (by assumption) rfl rfl ?_
        refine g_iload_n (q0 := 15) (j := 2) rfl dX10_find_14 rfl ?_
        refine g_iald (q0 := 16) rfl dX10_find_15 (by assumption) (by omega) (by omega) ?_
        refine g_iload_n (q0 := 17) (j := 1) rfl dX10_find_16 rfl ?_
        refine g_icmp_ne (q0 := 20) (tgt := 22) rfl dX10_find_17 (by decide) (fun h17 => ?_) (fun h17 => ?_)
        · refine g_iinc (q0 := 25) (lv2 := [_, _, _]) rfl dX10_find_22 rfl (by decide) rfl rfl (by omega) (by omega) ?_
          refine g_goto (tgt := 2) dX10_find_25 (by decide) ?_
          exact ih (i + 1) (by omega) (by omega) (fun j g hg => by have := hm (j + 1) g hg; rw [← this]; congr 1; omega) (by rw [← hv]; rw [tFind, if_neg (by have := hm 0 f rfl; simp at this; rw [← this]; exact h17)])
        · refine g_iload_n (q0 := 21) (j := 2) rfl dX10_find_20 rfl ?_
          refine g_ireturn dX10_find_21 rfl ⟨Nat.zero_le _, Nat.zero_le _⟩ ?_
          have e0 := hm 0 f rfl
          simp only [Int.natCast_zero, Int.add_zero] at e0
          exact ⟨by rw [← hv, tFind, if_pos (by rw [← e0]; exact h17)], rfl, rfl⟩
  refine g_iconst (q0 := 1) rfl dX10_find_0 (k := ?_)
  refine g_istore_n (q0 := 2) (j := 2) (lv2 := [_, _, _]) rfl dX10_find_1 (by decide) rfl rfl ?_
  exact lp fs 0 (by omega) (by omega) (fun j f hf => by rw [Int.zero_add]; exact (hT.2 j f hf).1) rfl
