-- ==== the room of a text: its sizes 16, 34, 70, 142, 286, 574
theorem dJ8_newLength_cabcc_0 : decode cJ8_newLength_cabcc 0 = .ok (.iload_n 0, 1) := by decide +kernel
theorem dJ8_newLength_cabcc_1 : decode cJ8_newLength_cabcc 1 = .ok (.iload_n 1, 1) := by decide +kernel
theorem dJ8_newLength_cabcc_2 : decode cJ8_newLength_cabcc 2 = .ok (.iload_n 2, 1) := by decide +kernel
theorem dJ8_newLength_cabcc_3 : decode cJ8_newLength_cabcc 3 = .ok (.invokestatic 194, 3) := by decide +kernel
theorem dJ8_newLength_cabcc_6 : decode cJ8_newLength_cabcc 6 = .ok (.iadd, 1) := by decide +kernel
theorem dJ8_newLength_cabcc_7 : decode cJ8_newLength_cabcc 7 = .ok (.istore_n 3, 1) := by decide +kernel
theorem dJ8_newLength_cabcc_8 : decode cJ8_newLength_cabcc 8 = .ok (.iconst 0, 1) := by decide +kernel
theorem dJ8_newLength_cabcc_9 : decode cJ8_newLength_cabcc 9 = .ok (.iload_n 3, 1) := by decide +kernel
theorem dJ8_newLength_cabcc_10 : decode cJ8_newLength_cabcc 10 = .ok (.if_icmp .ge 11, 3) := by decide +kernel
theorem dJ8_newLength_cabcc_13 : decode cJ8_newLength_cabcc 13 = .ok (.iload_n 3, 1) := by decide +kernel
theorem dJ8_newLength_cabcc_14 : decode cJ8_newLength_cabcc 14 = .ok (.ldc 200, 2) := by decide +kernel
theorem dJ8_newLength_cabcc_16 : decode cJ8_newLength_cabcc 16 = .ok (.if_icmp .gt 5, 3) := by decide +kernel
theorem dJ8_newLength_cabcc_19 : decode cJ8_newLength_cabcc 19 = .ok (.iload_n 3, 1) := by decide +kernel
theorem dJ8_newLength_cabcc_20 : decode cJ8_newLength_cabcc 20 = .ok (.ireturn, 1) := by decide +kernel
theorem dJ8_newLength_cabcc_21 : decode cJ8_newLength_cabcc 21 = .ok (.iload_n 0, 1) := by decide +kernel
theorem dJ8_newLength_cabcc_22 : decode cJ8_newLength_cabcc 22 = .ok (.iload_n 1, 1) := by decide +kernel
theorem dJ8_newLength_cabcc_23 : decode cJ8_newLength_cabcc 23 = .ok (.invokestatic 201, 3) := by decide +kernel
theorem dJ8_newLength_cabcc_26 : decode cJ8_newLength_cabcc 26 = .ok (.ireturn, 1) := by decide +kernel
theorem dJ5_newCapacity_0f7a4_0 : decode cJ5_newCapacity_0f7a4 0 = .ok (.aload_n 0, 1) := by decide +kernel
theorem dJ5_newCapacity_0f7a4_1 : decode cJ5_newCapacity_0f7a4 1 = .ok (.getfield 15, 3) := by decide +kernel
theorem dJ5_newCapacity_0f7a4_4 : decode cJ5_newCapacity_0f7a4 4 = .ok (.arraylength, 1) := by decide +kernel
theorem dJ5_newCapacity_0f7a4_5 : decode cJ5_newCapacity_0f7a4 5 = .ok (.istore_n 2, 1) := by decide +kernel
theorem dJ5_newCapacity_0f7a4_6 : decode cJ5_newCapacity_0f7a4 6 = .ok (.iload_n 1, 1) := by decide +kernel
theorem dJ5_newCapacity_0f7a4_7 : decode cJ5_newCapacity_0f7a4 7 = .ok (.aload_n 0, 1) := by decide +kernel
theorem dJ5_newCapacity_0f7a4_8 : decode cJ5_newCapacity_0f7a4 8 = .ok (.getfield 22, 3) := by decide +kernel
theorem dJ5_newCapacity_0f7a4_11 : decode cJ5_newCapacity_0f7a4 11 = .ok (.ishl, 1) := by decide +kernel
theorem dJ5_newCapacity_0f7a4_12 : decode cJ5_newCapacity_0f7a4 12 = .ok (.istore_n 3, 1) := by decide +kernel
theorem dJ5_newCapacity_0f7a4_13 : decode cJ5_newCapacity_0f7a4 13 = .ok (.iload_n 3, 1) := by decide +kernel
theorem dJ5_newCapacity_0f7a4_14 : decode cJ5_newCapacity_0f7a4 14 = .ok (.iload_n 2, 1) := by decide +kernel
theorem dJ5_newCapacity_0f7a4_15 : decode cJ5_newCapacity_0f7a4 15 = .ok (.isub, 1) := by decide +kernel
theorem dJ5_newCapacity_0f7a4_16 : decode cJ5_newCapacity_0f7a4 16 = .ok (.istore 4, 2) := by decide +kernel
theorem dJ5_newCapacity_0f7a4_18 : decode cJ5_newCapacity_0f7a4 18 = .ok (.iload_n 2, 1) := by decide +kernel
theorem dJ5_newCapacity_0f7a4_19 : decode cJ5_newCapacity_0f7a4 19 = .ok (.iload 4, 2) := by decide +kernel
theorem dJ5_newCapacity_0f7a4_21 : decode cJ5_newCapacity_0f7a4 21 = .ok (.iload_n 2, 1) := by decide +kernel
theorem dJ5_newCapacity_0f7a4_22 : decode cJ5_newCapacity_0f7a4 22 = .ok (.iconst 2, 1) := by decide +kernel
theorem dJ5_newCapacity_0f7a4_23 : decode cJ5_newCapacity_0f7a4 23 = .ok (.aload_n 0, 1) := by decide +kernel
theorem dJ5_newCapacity_0f7a4_24 : decode cJ5_newCapacity_0f7a4 24 = .ok (.getfield 22, 3) := by decide +kernel
theorem dJ5_newCapacity_0f7a4_27 : decode cJ5_newCapacity_0f7a4 27 = .ok (.ishl, 1) := by decide +kernel
theorem dJ5_newCapacity_0f7a4_28 : decode cJ5_newCapacity_0f7a4 28 = .ok (.iadd, 1) := by decide +kernel
theorem dJ5_newCapacity_0f7a4_29 : decode cJ5_newCapacity_0f7a4 29 = .ok (.invokestatic 114, 3) := by decide +kernel
theorem dJ5_newCapacity_0f7a4_32 : decode cJ5_newCapacity_0f7a4 32 = .ok (.istore 5, 2) := by decide +kernel
theorem dJ5_newCapacity_0f7a4_34 : decode cJ5_newCapacity_0f7a4 34 = .ok (.iload 5, 2) := by decide +kernel
theorem dJ5_newCapacity_0f7a4_36 : decode cJ5_newCapacity_0f7a4 36 = .ok (.ldc 39, 2) := by decide +kernel
theorem dJ5_newCapacity_0f7a4_38 : decode cJ5_newCapacity_0f7a4 38 = .ok (.if_icmp .ne 13, 3) := by decide +kernel
theorem dJ5_newCapacity_0f7a4_41 : decode cJ5_newCapacity_0f7a4 41 = .ok (.new 120, 3) := by decide +kernel
theorem dJ5_newCapacity_0f7a4_44 : decode cJ5_newCapacity_0f7a4 44 = .ok (.dup, 1) := by decide +kernel
theorem dJ5_newCapacity_0f7a4_45 : decode cJ5_newCapacity_0f7a4 45 = .ok (.ldc 122, 2) := by decide +kernel
theorem dJ5_newCapacity_0f7a4_47 : decode cJ5_newCapacity_0f7a4 47 = .ok (.invokespecial 124, 3) := by decide +kernel
theorem dJ5_newCapacity_0f7a4_50 : decode cJ5_newCapacity_0f7a4 50 = .ok (.athrow, 1) := by decide +kernel
theorem dJ5_newCapacity_0f7a4_51 : decode cJ5_newCapacity_0f7a4 51 = .ok (.iload 5, 2) := by decide +kernel
theorem dJ5_newCapacity_0f7a4_53 : decode cJ5_newCapacity_0f7a4 53 = .ok (.aload_n 0, 1) := by decide +kernel
theorem dJ5_newCapacity_0f7a4_54 : decode cJ5_newCapacity_0f7a4 54 = .ok (.getfield 22, 3) := by decide +kernel
theorem dJ5_newCapacity_0f7a4_57 : decode cJ5_newCapacity_0f7a4 57 = .ok (.ishr, 1) := by decide +kernel
theorem dJ5_newCapacity_0f7a4_58 : decode cJ5_newCapacity_0f7a4 58 = .ok (.ireturn, 1) := by decide +kernel
theorem dJ7_copyOf_9075b_0 : decode cJ7_copyOf_9075b 0 = .ok (.iload_n 1, 1) := by decide +kernel
theorem dJ7_copyOf_9075b_1 : decode cJ7_copyOf_9075b 1 = .ok (.aload_n 0, 1) := by decide +kernel
theorem dJ7_copyOf_9075b_2 : decode cJ7_copyOf_9075b 2 = .ok (.arraylength, 1) := by decide +kernel
theorem dJ7_copyOf_9075b_3 : decode cJ7_copyOf_9075b 3 = .ok (.if_icmp .ne 11, 3) := by decide +kernel
theorem dJ7_copyOf_9075b_6 : decode cJ7_copyOf_9075b 6 = .ok (.aload_n 0, 1) := by decide +kernel
theorem dJ7_copyOf_9075b_7 : decode cJ7_copyOf_9075b 7 = .ok (.invokevirtual 310, 3) := by decide +kernel
theorem dJ7_copyOf_9075b_10 : decode cJ7_copyOf_9075b 10 = .ok (.checkcast 311, 3) := by decide +kernel
theorem dJ7_copyOf_9075b_13 : decode cJ7_copyOf_9075b 13 = .ok (.areturn, 1) := by decide +kernel
theorem dJ7_copyOf_9075b_14 : decode cJ7_copyOf_9075b 14 = .ok (.iload_n 1, 1) := by decide +kernel
theorem dJ7_copyOf_9075b_15 : decode cJ7_copyOf_9075b 15 = .ok (.newarray .byte, 2) := by decide +kernel
theorem dJ7_copyOf_9075b_17 : decode cJ7_copyOf_9075b 17 = .ok (.astore_n 2, 1) := by decide +kernel
theorem dJ7_copyOf_9075b_18 : decode cJ7_copyOf_9075b 18 = .ok (.aload_n 0, 1) := by decide +kernel
theorem dJ7_copyOf_9075b_19 : decode cJ7_copyOf_9075b 19 = .ok (.iconst 0, 1) := by decide +kernel
theorem dJ7_copyOf_9075b_20 : decode cJ7_copyOf_9075b 20 = .ok (.aload_n 2, 1) := by decide +kernel
theorem dJ7_copyOf_9075b_21 : decode cJ7_copyOf_9075b 21 = .ok (.iconst 0, 1) := by decide +kernel
theorem dJ7_copyOf_9075b_22 : decode cJ7_copyOf_9075b 22 = .ok (.aload_n 0, 1) := by decide +kernel
theorem dJ7_copyOf_9075b_23 : decode cJ7_copyOf_9075b 23 = .ok (.arraylength, 1) := by decide +kernel
theorem dJ7_copyOf_9075b_24 : decode cJ7_copyOf_9075b 24 = .ok (.iload_n 1, 1) := by decide +kernel
theorem dJ7_copyOf_9075b_25 : decode cJ7_copyOf_9075b 25 = .ok (.invokestatic 304, 3) := by decide +kernel
theorem dJ7_copyOf_9075b_28 : decode cJ7_copyOf_9075b 28 = .ok (.invokestatic 150, 3) := by decide +kernel
theorem dJ7_copyOf_9075b_31 : decode cJ7_copyOf_9075b 31 = .ok (.aload_n 2, 1) := by decide +kernel
theorem dJ7_copyOf_9075b_32 : decode cJ7_copyOf_9075b 32 = .ok (.areturn, 1) := by decide +kernel
theorem dJ5_ensureCapacityInternal_d00df_0 : decode cJ5_ensureCapacityInternal_d00df 0 = .ok (.aload_n 0, 1) := by decide +kernel
theorem dJ5_ensureCapacityInternal_d00df_1 : decode cJ5_ensureCapacityInternal_d00df 1 = .ok (.getfield 15, 3) := by decide +kernel
theorem dJ5_ensureCapacityInternal_d00df_4 : decode cJ5_ensureCapacityInternal_d00df 4 = .ok (.arraylength, 1) := by decide +kernel
theorem dJ5_ensureCapacityInternal_d00df_5 : decode cJ5_ensureCapacityInternal_d00df 5 = .ok (.aload_n 0, 1) := by decide +kernel
theorem dJ5_ensureCapacityInternal_d00df_6 : decode cJ5_ensureCapacityInternal_d00df 6 = .ok (.getfield 22, 3) := by decide +kernel
theorem dJ5_ensureCapacityInternal_d00df_9 : decode cJ5_ensureCapacityInternal_d00df 9 = .ok (.ishr, 1) := by decide +kernel
theorem dJ5_ensureCapacityInternal_d00df_10 : decode cJ5_ensureCapacityInternal_d00df 10 = .ok (.istore_n 2, 1) := by decide +kernel
theorem dJ5_ensureCapacityInternal_d00df_11 : decode cJ5_ensureCapacityInternal_d00df 11 = .ok (.iload_n 1, 1) := by decide +kernel
theorem dJ5_ensureCapacityInternal_d00df_12 : decode cJ5_ensureCapacityInternal_d00df 12 = .ok (.iload_n 2, 1) := by decide +kernel
theorem dJ5_ensureCapacityInternal_d00df_13 : decode cJ5_ensureCapacityInternal_d00df 13 = .ok (.isub, 1) := by decide +kernel
theorem dJ5_ensureCapacityInternal_d00df_14 : decode cJ5_ensureCapacityInternal_d00df 14 = .ok (.ifCond .le 24, 3) := by decide +kernel
theorem dJ5_ensureCapacityInternal_d00df_17 : decode cJ5_ensureCapacityInternal_d00df 17 = .ok (.aload_n 0, 1) := by decide +kernel
theorem dJ5_ensureCapacityInternal_d00df_18 : decode cJ5_ensureCapacityInternal_d00df 18 = .ok (.aload_n 0, 1) := by decide +kernel
theorem dJ5_ensureCapacityInternal_d00df_19 : decode cJ5_ensureCapacityInternal_d00df 19 = .ok (.getfield 15, 3) := by decide +kernel
theorem dJ5_ensureCapacityInternal_d00df_22 : decode cJ5_ensureCapacityInternal_d00df 22 = .ok (.aload_n 0, 1) := by decide +kernel
theorem dJ5_ensureCapacityInternal_d00df_23 : decode cJ5_ensureCapacityInternal_d00df 23 = .ok (.iload_n 1, 1) := by decide +kernel
theorem dJ5_ensureCapacityInternal_d00df_24 : decode cJ5_ensureCapacityInternal_d00df 24 = .ok (.invokevirtual 104, 3) := by decide +kernel
theorem dJ5_ensureCapacityInternal_d00df_27 : decode cJ5_ensureCapacityInternal_d00df 27 = .ok (.aload_n 0, 1) := by decide +kernel
theorem dJ5_ensureCapacityInternal_d00df_28 : decode cJ5_ensureCapacityInternal_d00df 28 = .ok (.getfield 22, 3) := by decide +kernel
theorem dJ5_ensureCapacityInternal_d00df_31 : decode cJ5_ensureCapacityInternal_d00df 31 = .ok (.ishl, 1) := by decide +kernel
theorem dJ5_ensureCapacityInternal_d00df_32 : decode cJ5_ensureCapacityInternal_d00df 32 = .ok (.invokestatic 108, 3) := by decide +kernel
theorem dJ5_ensureCapacityInternal_d00df_35 : decode cJ5_ensureCapacityInternal_d00df 35 = .ok (.putfield 15, 3) := by decide +kernel
theorem dJ5_ensureCapacityInternal_d00df_38 : decode cJ5_ensureCapacityInternal_d00df 38 = .ok (.return_, 1) := by decide +kernel
theorem dJ5_isLatin1_aae02_0 : decode cJ5_isLatin1_aae02 0 = .ok (.getstatic 18, 3) := by decide +kernel
theorem dJ5_isLatin1_aae02_3 : decode cJ5_isLatin1_aae02 3 = .ok (.ifCond .eq 14, 3) := by decide +kernel
theorem dJ5_isLatin1_aae02_6 : decode cJ5_isLatin1_aae02 6 = .ok (.aload_n 0, 1) := by decide +kernel
theorem dJ5_isLatin1_aae02_7 : decode cJ5_isLatin1_aae02 7 = .ok (.getfield 22, 3) := by decide +kernel
theorem dJ5_isLatin1_aae02_10 : decode cJ5_isLatin1_aae02 10 = .ok (.ifCond .ne 7, 3) := by decide +kernel
theorem dJ5_isLatin1_aae02_13 : decode cJ5_isLatin1_aae02 13 = .ok (.iconst 1, 1) := by decide +kernel
theorem dJ5_isLatin1_aae02_14 : decode cJ5_isLatin1_aae02 14 = .ok (.goto 4, 3) := by decide +kernel
theorem dJ5_isLatin1_aae02_17 : decode cJ5_isLatin1_aae02 17 = .ok (.iconst 0, 1) := by decide +kernel
theorem dJ5_isLatin1_aae02_18 : decode cJ5_isLatin1_aae02 18 = .ok (.ireturn, 1) := by decide +kernel
theorem dJ1_canEncode_fc78d_0 : decode cJ1_canEncode_fc78d 0 = .ok (.iload_n 0, 1) := by decide +kernel
theorem dJ1_canEncode_fc78d_1 : decode cJ1_canEncode_fc78d 1 = .ok (.sipush 255, 3) := by decide +kernel
theorem dJ1_canEncode_fc78d_4 : decode cJ1_canEncode_fc78d 4 = .ok (.if_icmp .gt 7, 3) := by decide +kernel
theorem dJ1_canEncode_fc78d_7 : decode cJ1_canEncode_fc78d 7 = .ok (.iconst 1, 1) := by decide +kernel
theorem dJ1_canEncode_fc78d_8 : decode cJ1_canEncode_fc78d 8 = .ok (.goto 4, 3) := by decide +kernel
theorem dJ1_canEncode_fc78d_11 : decode cJ1_canEncode_fc78d 11 = .ok (.iconst 0, 1) := by decide +kernel
theorem dJ1_canEncode_fc78d_12 : decode cJ1_canEncode_fc78d 12 = .ok (.ireturn, 1) := by decide +kernel
def tN (i : Nat) : Nat := [16, 34, 70, 142, 286, 574].getD i 574
def tS (i : Nat) : Nat := [0, 34, 104, 246, 532, 1106].getD i 1106
def xI (L : Nat) : Nat := if L ≤ 16 then 0 else if L ≤ 34 then 1 else if L ≤ 70 then 2 else if L ≤ 142 then 3 else if L ≤ 286 then 4 else 5
def tI (i L : Nat) : Nat := if i ≤ xI L then xI L else i
theorem tN_step : ∀ i : Nat, i < 5 → tN (i + 1) = 2 * tN i + 2 ∧ tS (i + 1) = tS i + tN (i + 1) := by decide
theorem tN_rng : ∀ i : Nat, i < 6 → 16 ≤ tN i ∧ tN i ≤ 574 := by decide
theorem tS_mono {i j : Nat} (h : i ≤ j) (hj : j ≤ 5) : tS i ≤ tS j := by
  have : ∀ j : Nat, j < 6 → ∀ i : Nat, i < j + 1 → tS i ≤ tS j := by decide
  exact this j (by omega) i (by omega)
theorem xI_le (L : Nat) : xI L ≤ 5 := by
  unfold xI
  by_cases h1 : L ≤ 16
  · rw [if_pos h1]; decide
  · rw [if_neg h1]
    by_cases h2 : L ≤ 34
    · rw [if_pos h2]; decide
    · rw [if_neg h2]
      by_cases h3 : L ≤ 70
      · rw [if_pos h3]; decide
      · rw [if_neg h3]
        by_cases h4 : L ≤ 142
        · rw [if_pos h4]; decide
        · rw [if_neg h4]
          by_cases h5 : L ≤ 286
          · rw [if_pos h5]; decide
          · rw [if_neg h5]; decide
theorem xI_iff {L i : Nat} (hi : i < 5) : xI L ≤ i ↔ L ≤ tN i := by
  have e : i = 0 ∨ i = 1 ∨ i = 2 ∨ i = 3 ∨ i = 4 := by omega
  unfold xI
  by_cases h1 : L ≤ 16
  · rw [if_pos h1]
    rcases e with rfl | rfl | rfl | rfl | rfl <;> (simp [tN] <;> omega)
  · rw [if_neg h1]
    by_cases h2 : L ≤ 34
    · rw [if_pos h2]
      rcases e with rfl | rfl | rfl | rfl | rfl <;> (simp [tN] <;> omega)
    · rw [if_neg h2]
      by_cases h3 : L ≤ 70
      · rw [if_pos h3]
        rcases e with rfl | rfl | rfl | rfl | rfl <;> (simp [tN] <;> omega)
      · rw [if_neg h3]
        by_cases h4 : L ≤ 142
        · rw [if_pos h4]
          rcases e with rfl | rfl | rfl | rfl | rfl <;> (simp [tN] <;> omega)
        · rw [if_neg h4]
          by_cases h5 : L ≤ 286
          · rw [if_pos h5]
            rcases e with rfl | rfl | rfl | rfl | rfl <;> (simp [tN] <;> omega)
          · rw [if_neg h5]
            rcases e with rfl | rfl | rfl | rfl | rfl <;> (simp [tN] <;> omega)
theorem xI_mono {a b : Nat} (h : a ≤ b) : xI a ≤ xI b := by
  by_cases hb : xI b < 5
  · exact (xI_iff hb).mpr (Nat.le_trans h ((xI_iff hb).mp (Nat.le_refl _)))
  · have := xI_le a
    omega
theorem tI_ge (i L : Nat) : i ≤ tI i L ∧ xI L ≤ tI i L := by
  unfold tI
  by_cases h : i ≤ xI L
  · rw [if_pos h]; exact ⟨h, Nat.le_refl _⟩
  · rw [if_neg h]; omega
theorem tI_le {i L : Nat} (h : i ≤ 5) : tI i L ≤ 5 := by
  unfold tI
  have := xI_le L
  by_cases h : i ≤ xI L
  · rw [if_pos h]; omega
  · rw [if_neg h]; omega
theorem tI_of {i L : Nat} (h : xI L ≤ i) : tI i L = i := by
  unfold tI
  by_cases h2 : i ≤ xI L
  · rw [if_pos h2]; omega
  · rw [if_neg h2]
theorem tI_same {i L : Nat} (hi : i ≤ 5) (h : L ≤ tN i) : tI i L = i := by
  by_cases h5 : i < 5
  · exact tI_of ((xI_iff h5).mpr h)
  · exact tI_of (by have := xI_le L; omega)
theorem tI_next {i L : Nat} (hi : i ≤ 5) (h : tN i < L) (h2 : L ≤ tN i + 3) (h3 : L ≤ 574) : i < 5 ∧ tI i L = i + 1 := by
  have h5 : i < 5 := by
    rcases Nat.lt_or_ge i 5 with q | q
    · exact q
    · exfalso
      have : i = 5 := by omega
      subst this
      have : tN 5 = 574 := rfl
      omega
  refine ⟨h5, ?_⟩
  have h6 : ¬ xI L ≤ i := fun q => by have := (xI_iff h5).mp q; omega
  have h7 : xI L ≤ i + 1 := by
    by_cases h8 : i + 1 < 5
    · refine (xI_iff h8).mpr ?_
      have := (tN_step i h5).1
      have := tN_rng i (by omega)
      omega
    · have := xI_le L
      omega
  unfold tI
  rw [if_pos (by omega)]
  omega
theorem tI_fit {i L : Nat} (h : L ≤ 574) : L ≤ tN (tI i L) := by
  have h1 := (tI_ge i L).2
  by_cases h5 : tI i L < 5
  · exact (xI_iff h5).mp h1
  · have e : ∀ q : Nat, 5 ≤ q → tN q = 574 := by
      intro q hq
      unfold tN
      rw [List.getD_eq_getElem?_getD]
      by_cases hq2 : q = 5
      · subst hq2; rfl
      · rw [List.getElem?_eq_none (by show 6 ≤ q; omega)]; rfl
    rw [e _ (by omega)]
    exact h
theorem tI_tI {i a b : Nat} (h : a ≤ b) : tI (tI i a) b = tI i b := by
  have h1 := xI_mono h
  unfold tI
  by_cases ha : i ≤ xI a
  · rw [if_pos ha, if_pos h1, if_pos (by omega)]
  · rw [if_neg ha]
theorem tI_mono {i a b : Nat} (h : a ≤ b) : tI i a ≤ tI i b := by
  rw [← tI_tI h]
  exact (tI_ge _ _).1
/-- the room that a text's growing takes, from one size to another -/
def txC (i j : Nat) : Nat := j - i
def txD (i j : Nat) : Nat := tS j - tS i
theorem txC_0 (i : Nat) : txC i i = 0 := Nat.sub_self _
theorem txD_0 (i : Nat) : txD i i = 0 := Nat.sub_self _
theorem txC_add {i j k : Nat} (h1 : i ≤ j) (h2 : j ≤ k) : txC i j + txC j k = txC i k := by unfold txC; omega
theorem txD_add {i j k : Nat} (h1 : i ≤ j) (h2 : j ≤ k) (h3 : k ≤ 5) : txD i j + txD j k = txD i k := by
  have := tS_mono h1 (Nat.le_trans h2 h3)
  have := tS_mono h2 h3
  unfold txD
  omega
theorem txC_le {i j k : Nat} (h2 : j ≤ k) : txC i j ≤ txC i k := by unfold txC; omega
theorem txD_le {i j k : Nat} (h2 : j ≤ k) (h3 : k ≤ 5) : txD i j ≤ txD i k := by
  have := tS_mono h2 h3
  unfold txD
  omega
theorem gA_ck {R : Room} {y : MethodName} {cc : ByteArray} {nL : Nat} {ret : Option FieldType} {Q : Option gV → gS → gM → Prop} {pc : Nat} {lv st : List gV} {sh : gS} {M : gM} {a b c d : Nat} (h1 : a = c) (h2 : b = d) (h : gA R y cc nL ret Q (c, d) pc lv st sh M) : gA R y cc nL ret Q (a, b) pc lv st sh M := by
  subst h1; subst h2
  exact h
/-- the text: of the i-th size, what stands in it -/
def tX (sh : gS) (M : gM) (i : Nat) (s : List Int) : Prop := gOK sh M ∧ gsh sh (M 475 0) = some (2, tN i) ∧ (M 475 0 = 476 ∨ 758 ≤ M 475 0) ∧ M 475 1 = 0 ∧ M 475 3 = (s.length : Int) ∧ s.length ≤ tN i ∧ i ≤ 5 ∧ (∀ j : Int, 0 ≤ j → j < (tN i : Int) → 0 ≤ M (M 475 0) j ∧ M (M 475 0) j < 128) ∧ ∀ (j : Nat) (c : Int), s[j]? = some c → M (M 475 0) (j : Int) = c
/-- the text alone is written; the heap may have grown -/
def tF (sh : gS) (M : gM) (sh1 : gS) (M1 : gM) : Prop := (∃ e : gS, sh1 = sh ++ e) ∧ ∀ b : Int, b < 758 → b ≠ 475 → b ≠ 476 → M1 b = M b
theorem tF_refl (sh : gS) (M : gM) : tF sh M sh M := ⟨⟨[], (List.append_nil sh).symm⟩, fun _ _ _ _ => rfl⟩
theorem tF_trans {sh sh1 sh2 : gS} {M M1 M2 : gM} (h : tF sh M sh1 M1) (h2 : tF sh1 M1 sh2 M2) : tF sh M sh2 M2 := by
  obtain ⟨⟨e, rfl⟩, h⟩ := h
  obtain ⟨⟨e2, rfl⟩, h2⟩ := h2
  exact ⟨⟨e ++ e2, List.append_assoc _ _ _⟩, fun b b1 b2 b3 => by rw [h2 b b1 b2 b3, h b b1 b2 b3]⟩
theorem gsh_app {sh e : gS} {a : Int} {k : Nat × Nat} (h : gsh sh a = some k) : gsh (sh ++ e) a = some k := by
  obtain ⟨h0, h1⟩ := gsh_nn h
  have h2 : gsh (sh ++ e) ((a.toNat : Nat) : Int) = some k := gsh_of (by rw [List.getElem?_append_left (List.getElem?_eq_some_iff.mp h1).1]; exact h1)
  rw [Int.toNat_of_nonneg h0] at h2
  exact h2
theorem tF_sh {sh sh1 : gS} {M M1 : gM} (h : tF sh M sh1 M1) {a : Int} {k : Nat × Nat} (h2 : gsh sh a = some k) : gsh sh1 a = some k := by
  obtain ⟨⟨e, rfl⟩, -⟩ := h
  exact gsh_app h2
theorem gOK_len {sh : gS} {M : gM} (h : gOK sh M) : 758 ≤ sh.length := by
  have h1 := h.1 757 (1, 480) (by decide +kernel)
  have := (List.getElem?_eq_some_iff.mp h1).1
  omega
theorem gOK_new {sh : gS} {M : gM} {k : Nat × Nat} (h : gOK sh M) : gOK (sh ++ [k]) (gN M (sh.length : Int) k) := by
  have hl := gOK_len h
  have e : ∀ b : Int, b < 758 → gN M (sh.length : Int) k b = M b := fun b hb => gN_old M k (by omega)
  refine ⟨fun n q hn => ?_, fun a c j d ha hs ho => ?_, fun i i0 i1 => ?_, fun i i0 i1 => ?_⟩
  · have h1 := h.1 n q hn
    rw [List.getElem?_append_left (List.getElem?_eq_some_iff.mp h1).1]
    exact h1
  · rw [e a ha]
    refine h.2.1 a c j d ha ?_ ho
    rcases gsh_push hs with ⟨q1, q2⟩ | ⟨q1, q2⟩
    · omega
    · exact q2
  · rw [e 8 (by decide)]; exact h.2.2.1 i i0 i1
  · rw [e 408 (by decide), e 477 (by decide), e 409 (by decide), e 478 (by decide)]; exact h.2.2.2 i i0 i1
theorem gshl_0 {x : Int} (h : 0 ≤ x) (h2 : x < 2147483648) : gshl x 0 = x := by
  have e := gshl_mul h 0 0 (by decide) (by simpa using h2)
  rw [e]; simp
theorem gshr_0 {x : Int} (h : 0 ≤ x) (h2 : x < 2147483648) : gshr x 0 = x := by
  have e := gshr_div h h2 0 0 (by decide)
  rw [e]; simp
theorem sp_J8_newLength {sh : gS} {M : gM} {a b c : Int} (ha : 0 ≤ a) (hb : b ≤ c) (hs : 0 < a + c ∧ a + c ≤ 2147483639) (hc : 0 ≤ b) :
    gC (gr 2 42) yJ8_newLength_cabcc cJ8_newLength_cabcc 4 (some (.int)) [(0, a), (0, b), (0, c)] sh M (gPp sh M (0, a + c)) := by
  refine gC_ofA (lv := [_, _, _, _]) (by decide +kernel) (Nat.le_of_ble_eq_true rfl) rfl (fun hMw hav => ?_)
  refine g_iload_n (q0 := 1) (j := 0) rfl dJ8_newLength_cabcc_0 rfl ?_
  refine g_iload_n (q0 := 2) (j := 1) rfl dJ8_newLength_cabcc_1 rfl ?_
  refine g_iload_n (q0 := 3) (j := 2) rfl dJ8_newLength_cabcc_2 rfl ?_
  refine g_mmax (q0 := 6) rfl ml_J8_194 ms_J9_max_7cf53 inic_Math mt_J9_max_7cf53.1 dJ8_newLength_cabcc_3 (by decide) (Nat.le_of_ble_eq_true rfl) ⟨Nat.zero_le _, Nat.zero_le _⟩ ?_
  rw [show (if b < c then c else b) = c by by_cases q : b < c <;> simp only [q, if_true, if_false] <;> omega]
  refine g_iadd (q0 := 7) rfl dJ8_newLength_cabcc_6 (by omega) (by omega) ?_
  refine g_istore_n (q0 := 8) (j := 3) (lv2 := [_, _, _, _]) rfl dJ8_newLength_cabcc_7 (by decide) rfl rfl ?_
  refine g_iconst (q0 := 9) rfl dJ8_newLength_cabcc_8 (k := ?_)
  refine g_iload_n (q0 := 10) (j := 3) rfl dJ8_newLength_cabcc_9 rfl ?_
  refine g_icmp_ge (q0 := 13) (tgt := 21) rfl dJ8_newLength_cabcc_10 (by decide) (fun h10 => ?_) (fun h10 => ?_)
  · exact absurd h10 (by omega)
  · refine g_iload_n (q0 := 14) (j := 3) rfl dJ8_newLength_cabcc_13 rfl ?_
    refine g_ldc (q0 := 16) (n := 2147483639) rfl co_J8_200 dJ8_newLength_cabcc_14 (k := ?_)
    refine g_icmp_gt (q0 := 19) (tgt := 21) rfl dJ8_newLength_cabcc_16 (by decide) (fun h16 => ?_) (fun h16 => ?_)
    · exact absurd h16 (by omega)
    · refine g_iload_n (q0 := 20) (j := 3) rfl dJ8_newLength_cabcc_19 rfl ?_
      refine g_ireturn dJ8_newLength_cabcc_20 rfl ⟨Nat.zero_le _, Nat.zero_le _⟩ ?_
      exact ⟨rfl, rfl, rfl⟩
theorem sp_J5_newCapacity {sh : gS} {M : gM} {n m : Nat} (hOK : gOK sh M) (hs : gsh sh (M 475 0) = some (2, n)) (hc : M 475 1 = 0) (h1 : n ≤ m) (h2 : m ≤ 2 * n + 2) (h3 : n ≤ 1000) :
    gC (gr 3 65) yJ5_newCapacity_0f7a4 cJ5_newCapacity_0f7a4 6 (some (.int)) [(4, 475), (0, (m : Int))] sh M (gPp sh M (0, ((2 * n + 2 : Nat) : Int))) := by
  refine gC_ofA (lv := [_, _, _, _, _, _]) (by decide +kernel) (Nat.le_of_ble_eq_true rfl) rfl (fun hMw hav => ?_)
  refine g_aload_n (q0 := 1) (j := 0) rfl dJ5_newCapacity_0f7a4_0 rfl ?_
  refine g_getf (q0 := 4) (t := 4) (fi := 0) rfl rfl ff_J5_15 dJ5_newCapacity_0f7a4_1 rfl (sh_475 hOK) ?_
  refine g_alen (q0 := 5) rfl dJ5_newCapacity_0f7a4_4 (by assumption) (by omega) ⟨_, rfl⟩ ?_
  refine g_istore_n (q0 := 6) (j := 2) (lv2 := [_, _, _, _, _, _]) rfl dJ5_newCapacity_0f7a4_5 (by decide) rfl rfl ?_
  refine g_iload_n (q0 := 7) (j := 1) rfl dJ5_newCapacity_0f7a4_6 rfl ?_
  refine g_aload_n (q0 := 8) (j := 0) rfl dJ5_newCapacity_0f7a4_7 rfl ?_
  refine g_getf (q0 := 11) (t := 0) (fi := 1) rfl rfl ff_J5_22 dJ5_newCapacity_0f7a4_8 rfl (sh_475 hOK) ?_
  rw [hc]
  refine g_ishl (q0 := 12) rfl dJ5_newCapacity_0f7a4_11 ?_
  rw [gshl_0 (by omega) (by omega)]
  refine g_istore_n (q0 := 13) (j := 3) (lv2 := [_, _, _, _, _, _]) rfl dJ5_newCapacity_0f7a4_12 (by decide) rfl rfl ?_
  refine g_iload_n (q0 := 14) (j := 3) rfl dJ5_newCapacity_0f7a4_13 rfl ?_
  refine g_iload_n (q0 := 15) (j := 2) rfl dJ5_newCapacity_0f7a4_14 rfl ?_
  refine g_isub (q0 := 16) rfl dJ5_newCapacity_0f7a4_15 (by omega) (by omega) ?_
  refine g_istore (q0 := 18) (j := 4) (lv2 := [_, _, _, _, _, _]) rfl dJ5_newCapacity_0f7a4_16 (by decide) rfl rfl ?_
  refine g_iload_n (q0 := 19) (j := 2) rfl dJ5_newCapacity_0f7a4_18 rfl ?_
  refine g_iload (q0 := 21) (j := 4) rfl dJ5_newCapacity_0f7a4_19 rfl ?_
  refine g_iload_n (q0 := 22) (j := 2) rfl dJ5_newCapacity_0f7a4_21 rfl ?_
  refine g_iconst (q0 := 23) rfl dJ5_newCapacity_0f7a4_22 (k := ?_)
  refine g_aload_n (q0 := 24) (j := 0) rfl dJ5_newCapacity_0f7a4_23 rfl ?_
  refine g_getf (q0 := 27) (t := 0) (fi := 1) rfl rfl ff_J5_22 dJ5_newCapacity_0f7a4_24 rfl (sh_475 hOK) ?_
  rw [hc]
  refine g_ishl (q0 := 28) rfl dJ5_newCapacity_0f7a4_27 ?_
  rw [gshl_0 (by omega) (by omega)]
  refine g_iadd (q0 := 29) rfl dJ5_newCapacity_0f7a4_28 (by omega) (by omega) ?_
  refine g_callSp (as := [_, _, _]) (rest := []) mt_J8_newLength_cabcc ms_J8_newLength_cabcc ml_J5_114 dJ5_newCapacity_0f7a4_29 (q0 := 32) rfl rfl (sp_J8_newLength (by omega) (by omega) ⟨by omega, by omega⟩ (by omega)) rfl ⟨by decide, by decide⟩ (Nat.le_of_ble_eq_true rfl) ⟨Nat.zero_le _, Nat.zero_le _⟩ (fun hwc => ?_)
  rw [show (n : Int) + ((n : Int) + 2) = ((2 * n + 2 : Nat) : Int) by omega]
  refine g_istore (q0 := 34) (j := 5) (lv2 := [_, _, _, _, _, _]) rfl dJ5_newCapacity_0f7a4_32 (by decide) rfl rfl ?_
  refine g_iload (q0 := 36) (j := 5) rfl dJ5_newCapacity_0f7a4_34 rfl ?_
  refine g_ldc (q0 := 38) (n := 2147483647) rfl co_J5_39 dJ5_newCapacity_0f7a4_36 (k := ?_)
  refine g_icmp_ne (q0 := 41) (tgt := 51) rfl dJ5_newCapacity_0f7a4_38 (by decide) (fun h38 => ?_) (fun h38 => ?_)
  · refine g_iload (q0 := 53) (j := 5) rfl dJ5_newCapacity_0f7a4_51 rfl ?_
    refine g_aload_n (q0 := 54) (j := 0) rfl dJ5_newCapacity_0f7a4_53 rfl ?_
    refine g_getf (q0 := 57) (t := 0) (fi := 1) rfl rfl ff_J5_22 dJ5_newCapacity_0f7a4_54 rfl (sh_475 hOK) ?_
    rw [hc]
    refine g_ishr (q0 := 58) rfl dJ5_newCapacity_0f7a4_57 ?_
    rw [gshr_0 (by omega) (by omega)]
    refine g_ireturn dJ5_newCapacity_0f7a4_58 rfl ⟨Nat.zero_le _, Nat.zero_le _⟩ ?_
    exact ⟨rfl, rfl, rfl⟩
  · exact absurd h38 (by omega)
theorem sp_J7_copyOf {sh : gS} {M : gM} {a : Int} {n m : Nat} (hs : gsh sh a = some (2, n)) (hne : n < m) (hm : m ≤ 100000) (hr : ∀ j : Int, 0 ≤ j → j < (n : Int) → -128 ≤ M a j ∧ M a j < 128) :
    gC (gx 1 68 (1) (m)) yJ7_copyOf_9075b cJ7_copyOf_9075b 3 (some (.array (.byte))) [(4, a), (0, (m : Int))] sh M (fun r sh1 M1 => r = some (4, (sh.length : Int)) ∧ sh1 = sh ++ [(2, m)] ∧ M1 = gCpy (gN M (sh.length : Int) (2, m)) a 0 (sh.length : Int) 0 (n : Int)) := by
  have hal : a ≠ (sh.length : Int) := by
    obtain ⟨q0, q1⟩ := gsh_nn hs
    have := (List.getElem?_eq_some_iff.mp q1).1
    omega
  have hs1 : gsh (sh ++ [(2, m)]) a = some (2, n) := gsh_old hs
  have hs2 : gsh (sh ++ [(2, m)]) (sh.length : Int) = some (2, m) := gsh_new sh (2, m)
  refine gC_ofA (lv := [_, _, _]) (by decide +kernel) (Nat.le_of_ble_eq_true rfl) rfl (fun hMw hav => ?_)
  refine g_iload_n (q0 := 1) (j := 1) rfl dJ7_copyOf_9075b_0 rfl ?_
  refine g_aload_n (q0 := 2) (j := 0) rfl dJ7_copyOf_9075b_1 rfl ?_
  refine g_alen (q0 := 3) rfl dJ7_copyOf_9075b_2 (by assumption) (by omega) ⟨_, rfl⟩ ?_
  refine g_icmp_ne (q0 := 6) (tgt := 14) rfl dJ7_copyOf_9075b_3 (by decide) (fun h3 => ?_) (fun h3 => ?_)
  · refine g_iload_n (q0 := 15) (j := 1) rfl dJ7_copyOf_9075b_14 rfl ?_
    refine g_newB (q0 := 17) rfl rfl ac_byte dJ7_copyOf_9075b_15 hm (Nat.le_refl _) (by show 0 + m ≤ m; omega) ?_
    refine gA_ck (c := 1) (d := m) (Nat.zero_add 1) (Nat.zero_add m) ?_
    refine g_astore_n (q0 := 18) (j := 2) (lv2 := [_, _, _]) rfl dJ7_copyOf_9075b_17 (by decide) rfl rfl ?_
    refine g_aload_n (q0 := 19) (j := 0) rfl dJ7_copyOf_9075b_18 rfl ?_
    refine g_iconst (q0 := 20) rfl dJ7_copyOf_9075b_19 (k := ?_)
    refine g_aload_n (q0 := 21) (j := 2) rfl dJ7_copyOf_9075b_20 rfl ?_
    refine g_iconst (q0 := 22) rfl dJ7_copyOf_9075b_21 (k := ?_)
    refine g_aload_n (q0 := 23) (j := 0) rfl dJ7_copyOf_9075b_22 rfl ?_
    refine g_alen (q0 := 24) rfl dJ7_copyOf_9075b_23 (by assumption) (by omega) ⟨_, rfl⟩ ?_
    refine g_iload_n (q0 := 25) (j := 1) rfl dJ7_copyOf_9075b_24 rfl ?_
    refine g_mmin (q0 := 28) rfl ml_J7_304 ms_J9_min_7cf53 inic_Math mt_J9_min_7cf53.1 dJ7_copyOf_9075b_25 (Nat.le_of_ble_eq_true rfl) (Nat.le_of_ble_eq_true rfl) ⟨Nat.le_refl _, Nat.le_refl _⟩ ?_
    rw [if_neg (show ¬ (m : Int) < (n : Int) by omega)]
    refine g_copy (q0 := 31) rfl (Or.inr rfl) ml_J7_150 nat_acopy sta_acopy inic_System dJ7_copyOf_9075b_28 (by assumption) (by assumption) (by omega) (by omega) (by omega) (by omega) (by omega) (fun _ j j0 j1 => by rw [gN_old M (2, m) hal, Int.zero_add]; exact hr j j0 j1) (Nat.le_of_ble_eq_true rfl) (Nat.le_of_ble_eq_true rfl) ?_
    refine g_aload_n (q0 := 32) (j := 2) rfl dJ7_copyOf_9075b_31 rfl ?_
    refine g_areturnA dJ7_copyOf_9075b_32 rfl (by omega) ⟨Nat.le_refl _, Nat.le_refl _⟩ ?_
    exact ⟨rfl, rfl, rfl⟩
  · exact absurd h3 (by omega)
theorem sp_J5_isLatin1 {sh : gS} {M : gM} (hOK : gOK sh M) (hc : M 475 1 = 0) : gC (gr 0 0) yJ5_isLatin1_aae02 cJ5_isLatin1_aae02 1 (some (.boolean)) [(4, 475)] sh M (gPp sh M (0, 1)) := by
  refine gC_ofA (lv := [_]) (by decide +kernel) (Nat.le_of_ble_eq_true rfl) rfl (fun hMw hav => ?_)
  refine g_gsCompact (q0 := 3) rfl fs_J5_18 dJ5_isLatin1_aae02_0 ?_
  refine g_if_eq (q0 := 6) (tgt := 17) rfl dJ5_isLatin1_aae02_3 (by decide) (fun h3 => ?_) (fun h3 => ?_)
  · exact absurd h3 (by omega)
  · refine g_aload_n (q0 := 7) (j := 0) rfl dJ5_isLatin1_aae02_6 rfl ?_
    refine g_getf (q0 := 10) (t := 0) (fi := 1) rfl rfl ff_J5_22 dJ5_isLatin1_aae02_7 rfl (sh_475 hOK) ?_
    refine g_if_ne (q0 := 13) (tgt := 17) rfl dJ5_isLatin1_aae02_10 (by decide) (fun h10 => ?_) (fun h10 => ?_)
    · exact absurd h10 (by omega)
    · refine g_iconst (q0 := 14) rfl dJ5_isLatin1_aae02_13 (k := ?_)
      refine g_goto (tgt := 18) dJ5_isLatin1_aae02_14 (by decide) ?_
      refine g_zreturn dJ5_isLatin1_aae02_18 rfl (by first | rfl | exact gnz (by omega)) ⟨Nat.zero_le _, Nat.zero_le _⟩ ?_
      exact ⟨rfl, rfl, rfl⟩
theorem sp_J1_canEncode {sh : gS} {M : gM} {c : Int} (hc : c < 256) : gC (gr 0 0) yJ1_canEncode_fc78d cJ1_canEncode_fc78d 1 (some (.boolean)) [(0, c)] sh M (gPp sh M (0, 1)) := by
  refine gC_ofA (lv := [_]) (by decide +kernel) (Nat.le_of_ble_eq_true rfl) rfl (fun hMw hav => ?_)
  refine g_iload_n (q0 := 1) (j := 0) rfl dJ1_canEncode_fc78d_0 rfl ?_
  refine g_sipush (q0 := 4) rfl dJ1_canEncode_fc78d_1 (k := ?_)
  refine g_icmp_gt (q0 := 7) (tgt := 11) rfl dJ1_canEncode_fc78d_4 (by decide) (fun h4 => ?_) (fun h4 => ?_)
  · exact absurd h4 (by omega)
  · refine g_iconst (q0 := 8) rfl dJ1_canEncode_fc78d_7 (k := ?_)
    refine g_goto (tgt := 12) dJ1_canEncode_fc78d_8 (by decide) ?_
    refine g_zreturn dJ1_canEncode_fc78d_12 rfl (by first | rfl | exact gnz (by omega)) ⟨Nat.zero_le _, Nat.zero_le _⟩ ?_
    exact ⟨rfl, rfl, rfl⟩
theorem sp_J5_ensure {sh : gS} {M : gM} {i : Nat} {s : List Int} (hX : tX sh M i s) {m : Nat} (hm : m ≤ s.length + 3) (hL : m ≤ 574) :
    gC (gx 4 90 (txC i (tI i m)) (txD i (tI i m))) yJ5_ensureCapacityInternal_d00df cJ5_ensureCapacityInternal_d00df 3 none [(4, 475), (0, (m : Int))] sh M (fun r sh1 M1 => r = none ∧ tX sh1 M1 (tI i m) s ∧ tF sh M sh1 M1) := by
  have hX0 := hX
  obtain ⟨hOK, hs, hv, hc, hn, hln, hi5, hrg, hct⟩ := hX
  have hr := tN_rng i (by omega)
  refine gC_ofA (lv := [_, _, _]) (by decide +kernel) (Nat.le_of_ble_eq_true rfl) rfl (fun hMw hav => ?_)
  refine g_aload_n (q0 := 1) (j := 0) rfl dJ5_ensureCapacityInternal_d00df_0 rfl ?_
  refine g_getf (q0 := 4) (t := 4) (fi := 0) rfl rfl ff_J5_15 dJ5_ensureCapacityInternal_d00df_1 rfl (sh_475 hOK) ?_
  refine g_alen (q0 := 5) rfl dJ5_ensureCapacityInternal_d00df_4 (by assumption) (by omega) ⟨_, rfl⟩ ?_
  refine g_aload_n (q0 := 6) (j := 0) rfl dJ5_ensureCapacityInternal_d00df_5 rfl ?_
  refine g_getf (q0 := 9) (t := 0) (fi := 1) rfl rfl ff_J5_22 dJ5_ensureCapacityInternal_d00df_6 rfl (sh_475 hOK) ?_
  rw [hc]
  refine g_ishr (q0 := 10) rfl dJ5_ensureCapacityInternal_d00df_9 ?_
  rw [gshr_0 (by omega) (by omega)]
  refine g_istore_n (q0 := 11) (j := 2) (lv2 := [_, _, _]) rfl dJ5_ensureCapacityInternal_d00df_10 (by decide) rfl rfl ?_
  refine g_iload_n (q0 := 12) (j := 1) rfl dJ5_ensureCapacityInternal_d00df_11 rfl ?_
  refine g_iload_n (q0 := 13) (j := 2) rfl dJ5_ensureCapacityInternal_d00df_12 rfl ?_
  refine g_isub (q0 := 14) rfl dJ5_ensureCapacityInternal_d00df_13 (by omega) (by omega) ?_
  refine g_if_le (q0 := 17) (tgt := 38) rfl dJ5_ensureCapacityInternal_d00df_14 (by decide) (fun h14 => ?_) (fun h14 => ?_)
  · refine g_return dJ5_ensureCapacityInternal_d00df_38 rfl ⟨Nat.zero_le _, Nat.zero_le _⟩ ?_
    rw [tI_same hi5 (by omega)]
    exact ⟨rfl, hX0, tF_refl _ _⟩
  · obtain ⟨h5, e5⟩ := tI_next hi5 (show tN i < m by omega) (by omega) hL
    have e6 := tN_step i h5
    have r6 := tN_rng (i + 1) (by omega)
    have hl := gOK_len hOK
    rw [e5]
    have eC : txC i (i + 1) = 1 := by unfold txC; omega
    have eD : txD i (i + 1) = 2 * tN i + 2 := by unfold txD; omega
    rw [eC, eD]
    refine g_aload_n (q0 := 18) (j := 0) rfl dJ5_ensureCapacityInternal_d00df_17 rfl ?_
    refine g_aload_n (q0 := 19) (j := 0) rfl dJ5_ensureCapacityInternal_d00df_18 rfl ?_
    refine g_getf (q0 := 22) (t := 4) (fi := 0) rfl rfl ff_J5_15 dJ5_ensureCapacityInternal_d00df_19 rfl (sh_475 hOK) ?_
    refine g_aload_n (q0 := 23) (j := 0) rfl dJ5_ensureCapacityInternal_d00df_22 rfl ?_
    refine g_iload_n (q0 := 24) (j := 1) rfl dJ5_ensureCapacityInternal_d00df_23 rfl ?_
    refine g_callVsp (as := [_]) (rest := [_, _]) mt_J5_newCapacity_0f7a4 mi_J5_newCapacity_0f7a4 se_J4_ncap ml_J5_104 dJ5_ensureCapacityInternal_d00df_24 (q0 := 27) rfl rfl (sh_475 hOK) rfl rfl (sp_J5_newCapacity hOK hs hc (by omega) (by omega) (by omega)) rfl ⟨Nat.le_of_ble_eq_true rfl, Nat.le_of_ble_eq_true rfl⟩ ⟨Nat.zero_le _, Nat.zero_le _⟩ (Nat.le_of_ble_eq_true rfl) (fun hwc => ?_)
    refine g_aload_n (q0 := 28) (j := 0) rfl dJ5_ensureCapacityInternal_d00df_27 rfl ?_
    refine g_getf (q0 := 31) (t := 0) (fi := 1) rfl rfl ff_J5_22 dJ5_ensureCapacityInternal_d00df_28 rfl (sh_475 hOK) ?_
    rw [hc]
    refine g_ishl (q0 := 32) rfl dJ5_ensureCapacityInternal_d00df_31 ?_
    rw [gshl_0 (by omega) (by omega)]
    refine g_callS (as := [_, _]) (rest := [_]) mt_J7_copyOf_9075b ms_J7_copyOf_9075b ml_J5_108 dJ5_ensureCapacityInternal_d00df_32 (q0 := 35) rfl rfl (sp_J7_copyOf hs (by omega) (by omega) (fun j j0 j1 => by have := hrg j j0 j1; omega)) rfl ⟨Nat.le_of_ble_eq_true rfl, Nat.le_of_ble_eq_true rfl⟩ ⟨Nat.le_of_eq (Nat.zero_add _), Nat.le_of_eq (Nat.zero_add _)⟩ (Nat.le_of_ble_eq_true rfl) (fun r1 sh1 M1 hP1 hw1 hMw1 => ?_)
    obtain ⟨rfl, rfl, rfl⟩ := hP1
    refine gA_ck (c := 1) (d := 2 * tN i + 2) (Nat.zero_add _) (Nat.zero_add _) ?_
    have hO1 : gOK (sh ++ [(2, 2 * tN i + 2)]) (gN M (sh.length : Int) (2, 2 * tN i + 2)) := gOK_new hOK
    have hs2 : gsh (sh ++ [(2, 2 * tN i + 2)]) (sh.length : Int) = some (2, 2 * tN i + 2) := gsh_new sh _
    have hO2 : gOK (sh ++ [(2, 2 * tN i + 2)]) (gCpy (gN M (sh.length : Int) (2, 2 * tN i + 2)) (M 475 0) 0 (sh.length : Int) 0 (tN i : Int)) := gOK_cpy hO1 hs2 (Or.inr rfl)
    refine g_put (q0 := 38) (t := 4) (fi := 0) rfl rfl ff_J5_15 dJ5_ensureCapacityInternal_d00df_35 rfl (sh_475 hO2) rfl (fun G => ?_) ?_
    · rw [gc_ref G (show (0 : Int) ≤ (sh.length : Int) by omega)]
      exact ⟨rfl, rfl⟩
    refine g_return dJ5_ensureCapacityInternal_d00df_38 rfl ⟨Nat.le_refl _, Nat.le_refl _⟩ ?_
    have hold : ∀ b : Int, b < 758 → ∀ j : Int, gCpy (gN M (sh.length : Int) (2, 2 * tN i + 2)) (M 475 0) 0 (sh.length : Int) 0 (tN i : Int) b j = M b j := by
      intro b hb j
      unfold gCpy
      rw [if_neg (by omega), gN_old M _ (by omega)]
    have hv0 : M 475 0 ≠ (sh.length : Int) := by
      obtain ⟨q0, q1⟩ := gsh_nn hs
      have := (List.getElem?_eq_some_iff.mp q1).1
      omega
    have hnew : ∀ j : Int, 0 ≤ j → j < (tN i : Int) → gCpy (gN M (sh.length : Int) (2, 2 * tN i + 2)) (M 475 0) 0 (sh.length : Int) 0 (tN i : Int) (sh.length : Int) j = M (M 475 0) j := by
      intro j j0 j1
      unfold gCpy
      rw [if_pos ⟨rfl, j0, by omega⟩, gN_old M _ hv0, Int.zero_add, Int.sub_zero]
    have hfar : ∀ j : Int, (tN i : Int) ≤ j → gCpy (gN M (sh.length : Int) (2, 2 * tN i + 2)) (M 475 0) 0 (sh.length : Int) 0 (tN i : Int) (sh.length : Int) j = 0 := by
      intro j j0
      unfold gCpy
      rw [if_neg (by omega)]
      unfold gN
      rw [if_pos rfl]
      rfl
    refine ⟨rfl, ⟨gOK_o hO2 (sh_475 hO2) (f := 0) rfl rfl, ?_, ?_, ?_, ?_, ?_, by omega, ?_, ?_⟩, ⟨⟨_, rfl⟩, fun b b0 b1 b2 => ?_⟩⟩
    · rw [gU_same, e6.1]; exact hs2
    · rw [gU_same]; right; omega
    · rw [gU_idx (by decide), hold 475 (by decide)]; exact hc
    · rw [gU_idx (by decide), hold 475 (by decide)]; exact hn
    · omega
    · intro j j0 j1
      rw [gU_same, gU_cell _ _ _ (by omega)]
      by_cases hj : j < (tN i : Int)
      · rw [hnew j j0 hj]; exact hrg j j0 hj
      · rw [hfar j (by omega)]; decide
    · intro j c hj
      have hj2 := (List.getElem?_eq_some_iff.mp hj).1
      rw [gU_same, gU_cell _ _ _ (by omega), hnew (j : Int) (by omega) (by omega)]
      exact hct j c hj
    · rw [gU_cell _ _ _ b1]
      funext j
      exact hold b b0 j
