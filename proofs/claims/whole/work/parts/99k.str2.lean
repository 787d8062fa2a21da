-- ==== String.length, charAt
theorem dJ0_length_8abf5_0 : decode cJ0_length_8abf5 0 = .ok (.aload_n 0, 1) := by decide +kernel
theorem dJ0_length_8abf5_1 : decode cJ0_length_8abf5 1 = .ok (.getfield 9, 3) := by decide +kernel
theorem dJ0_length_8abf5_4 : decode cJ0_length_8abf5 4 = .ok (.arraylength, 1) := by decide +kernel
theorem dJ0_length_8abf5_5 : decode cJ0_length_8abf5 5 = .ok (.aload_n 0, 1) := by decide +kernel
theorem dJ0_length_8abf5_6 : decode cJ0_length_8abf5 6 = .ok (.invokevirtual 335, 3) := by decide +kernel
theorem dJ0_length_8abf5_9 : decode cJ0_length_8abf5 9 = .ok (.ishr, 1) := by decide +kernel
theorem dJ0_length_8abf5_10 : decode cJ0_length_8abf5 10 = .ok (.ireturn, 1) := by decide +kernel
theorem dJ0_coder_7d493_0 : decode cJ0_coder_7d493 0 = .ok (.getstatic 38, 3) := by decide +kernel
theorem dJ0_coder_7d493_3 : decode cJ0_coder_7d493 3 = .ok (.ifCond .eq 10, 3) := by decide +kernel
theorem dJ0_coder_7d493_6 : decode cJ0_coder_7d493 6 = .ok (.aload_n 0, 1) := by decide +kernel
theorem dJ0_coder_7d493_7 : decode cJ0_coder_7d493 7 = .ok (.getfield 15, 3) := by decide +kernel
theorem dJ0_coder_7d493_10 : decode cJ0_coder_7d493 10 = .ok (.goto 4, 3) := by decide +kernel
theorem dJ0_coder_7d493_13 : decode cJ0_coder_7d493 13 = .ok (.iconst 1, 1) := by decide +kernel
theorem dJ0_coder_7d493_14 : decode cJ0_coder_7d493 14 = .ok (.ireturn, 1) := by decide +kernel
theorem dJ0_isLatin1_aae02_0 : decode cJ0_isLatin1_aae02 0 = .ok (.getstatic 38, 3) := by decide +kernel
theorem dJ0_isLatin1_aae02_3 : decode cJ0_isLatin1_aae02 3 = .ok (.ifCond .eq 14, 3) := by decide +kernel
theorem dJ0_isLatin1_aae02_6 : decode cJ0_isLatin1_aae02 6 = .ok (.aload_n 0, 1) := by decide +kernel
theorem dJ0_isLatin1_aae02_7 : decode cJ0_isLatin1_aae02 7 = .ok (.getfield 15, 3) := by decide +kernel
theorem dJ0_isLatin1_aae02_10 : decode cJ0_isLatin1_aae02 10 = .ok (.ifCond .ne 7, 3) := by decide +kernel
theorem dJ0_isLatin1_aae02_13 : decode cJ0_isLatin1_aae02 13 = .ok (.iconst 1, 1) := by decide +kernel
theorem dJ0_isLatin1_aae02_14 : decode cJ0_isLatin1_aae02 14 = .ok (.goto 4, 3) := by decide +kernel
theorem dJ0_isLatin1_aae02_17 : decode cJ0_isLatin1_aae02 17 = .ok (.iconst 0, 1) := by decide +kernel
theorem dJ0_isLatin1_aae02_18 : decode cJ0_isLatin1_aae02 18 = .ok (.ireturn, 1) := by decide +kernel
theorem dJ0_charAt_5068e_0 : decode cJ0_charAt_5068e 0 = .ok (.aload_n 0, 1) := by decide +kernel
theorem dJ0_charAt_5068e_1 : decode cJ0_charAt_5068e 1 = .ok (.invokevirtual 492, 3) := by decide +kernel
theorem dJ0_charAt_5068e_4 : decode cJ0_charAt_5068e 4 = .ok (.ifCond .eq 12, 3) := by decide +kernel
theorem dJ0_charAt_5068e_7 : decode cJ0_charAt_5068e 7 = .ok (.aload_n 0, 1) := by decide +kernel
theorem dJ0_charAt_5068e_8 : decode cJ0_charAt_5068e 8 = .ok (.getfield 9, 3) := by decide +kernel
theorem dJ0_charAt_5068e_11 : decode cJ0_charAt_5068e 11 = .ok (.iload_n 1, 1) := by decide +kernel
theorem dJ0_charAt_5068e_12 : decode cJ0_charAt_5068e 12 = .ok (.invokestatic 495, 3) := by decide +kernel
theorem dJ0_charAt_5068e_15 : decode cJ0_charAt_5068e 15 = .ok (.ireturn, 1) := by decide +kernel
theorem dJ0_charAt_5068e_16 : decode cJ0_charAt_5068e 16 = .ok (.aload_n 0, 1) := by decide +kernel
theorem dJ0_charAt_5068e_17 : decode cJ0_charAt_5068e 17 = .ok (.getfield 9, 3) := by decide +kernel
theorem dJ0_charAt_5068e_20 : decode cJ0_charAt_5068e 20 = .ok (.iload_n 1, 1) := by decide +kernel
theorem dJ0_charAt_5068e_21 : decode cJ0_charAt_5068e 21 = .ok (.invokestatic 498, 3) := by decide +kernel
theorem dJ0_charAt_5068e_24 : decode cJ0_charAt_5068e 24 = .ok (.ireturn, 1) := by decide +kernel
theorem dJ1_charAt_3b067_0 : decode cJ1_charAt_3b067 0 = .ok (.iload_n 1, 1) := by decide +kernel
theorem dJ1_charAt_3b067_1 : decode cJ1_charAt_3b067 1 = .ok (.aload_n 0, 1) := by decide +kernel
theorem dJ1_charAt_3b067_2 : decode cJ1_charAt_3b067 2 = .ok (.arraylength, 1) := by decide +kernel
theorem dJ1_charAt_3b067_3 : decode cJ1_charAt_3b067 3 = .ok (.invokestatic 9, 3) := by decide +kernel
theorem dJ1_charAt_3b067_6 : decode cJ1_charAt_3b067 6 = .ok (.aload_n 0, 1) := by decide +kernel
theorem dJ1_charAt_3b067_7 : decode cJ1_charAt_3b067 7 = .ok (.iload_n 1, 1) := by decide +kernel
theorem dJ1_charAt_3b067_8 : decode cJ1_charAt_3b067 8 = .ok (.baload, 1) := by decide +kernel
theorem dJ1_charAt_3b067_9 : decode cJ1_charAt_3b067 9 = .ok (.sipush 255, 3) := by decide +kernel
theorem dJ1_charAt_3b067_12 : decode cJ1_charAt_3b067 12 = .ok (.iand, 1) := by decide +kernel
theorem dJ1_charAt_3b067_13 : decode cJ1_charAt_3b067 13 = .ok (.i2c, 1) := by decide +kernel
theorem dJ1_charAt_3b067_14 : decode cJ1_charAt_3b067 14 = .ok (.ireturn, 1) := by decide +kernel
theorem dJ0_checkIndex_df160_0 : decode cJ0_checkIndex_df160 0 = .ok (.iload_n 0, 1) := by decide +kernel
theorem dJ0_checkIndex_df160_1 : decode cJ0_checkIndex_df160 1 = .ok (.iload_n 1, 1) := by decide +kernel
theorem dJ0_checkIndex_df160_2 : decode cJ0_checkIndex_df160 2 = .ok (.getstatic 1053, 3) := by decide +kernel
theorem dJ0_checkIndex_df160_5 : decode cJ0_checkIndex_df160 5 = .ok (.invokestatic 1059, 3) := by decide +kernel
theorem dJ0_checkIndex_df160_8 : decode cJ0_checkIndex_df160 8 = .ok (.pop, 1) := by decide +kernel
theorem dJ0_checkIndex_df160_9 : decode cJ0_checkIndex_df160 9 = .ok (.return_, 1) := by decide +kernel
theorem dJ3_checkIndex_8e157_0 : decode cJ3_checkIndex_8e157 0 = .ok (.iload_n 0, 1) := by decide +kernel
theorem dJ3_checkIndex_8e157_1 : decode cJ3_checkIndex_8e157 1 = .ok (.ifCond .lt 8, 3) := by decide +kernel
theorem dJ3_checkIndex_8e157_4 : decode cJ3_checkIndex_8e157 4 = .ok (.iload_n 0, 1) := by decide +kernel
theorem dJ3_checkIndex_8e157_5 : decode cJ3_checkIndex_8e157 5 = .ok (.iload_n 1, 1) := by decide +kernel
theorem dJ3_checkIndex_8e157_6 : decode cJ3_checkIndex_8e157 6 = .ok (.if_icmp .lt 10, 3) := by decide +kernel
theorem dJ3_checkIndex_8e157_9 : decode cJ3_checkIndex_8e157 9 = .ok (.aload_n 2, 1) := by decide +kernel
theorem dJ3_checkIndex_8e157_10 : decode cJ3_checkIndex_8e157 10 = .ok (.iload_n 0, 1) := by decide +kernel
theorem dJ3_checkIndex_8e157_11 : decode cJ3_checkIndex_8e157 11 = .ok (.iload_n 1, 1) := by decide +kernel
theorem dJ3_checkIndex_8e157_12 : decode cJ3_checkIndex_8e157 12 = .ok (.invokestatic 95, 3) := by decide +kernel
theorem dJ3_checkIndex_8e157_15 : decode cJ3_checkIndex_8e157 15 = .ok (.athrow, 1) := by decide +kernel
theorem dJ3_checkIndex_8e157_16 : decode cJ3_checkIndex_8e157 16 = .ok (.iload_n 0, 1) := by decide +kernel
theorem dJ3_checkIndex_8e157_17 : decode cJ3_checkIndex_8e157 17 = .ok (.ireturn, 1) := by decide +kernel
def sC (i j : Nat) : Int := ((gSbyt.getD i []).getD j 0).toInt
theorem sC_all : ∀ i, i < 15 → ∀ j, j < 8 → gi2c (gand (sC i j) 255) = sC i j ∧ narrow .char (.int (Int32.ofInt (sC i j))) = .int (Int32.ofInt (sC i j)) := by decide +kernel
theorem sl_all : ∀ i, i < 15 → gSlen.getD i 0 < 8 ∧ gSlen.getD i 0 = (gSbyt.getD i []).length ∧ gshr ((gSlen.getD i 0 : Nat) : Int) 0 = ((gSlen.getD i 0 : Nat) : Int) := by decide +kernel
theorem sp_J3_checkIndex {sh : gS} {M : gM} {x n q : Int} (h : 0 ≤ x ∧ x < n) : gC (gr 1 20) yJ3_checkIndex_8e157 cJ3_checkIndex_8e157 3 (some (.int)) [(0, x), (0, n), (5, q)] sh M (gPp sh M (0, x)) := by
  refine gC_ofA (lv := [_, _, _]) (by decide +kernel) (Nat.le_of_ble_eq_true rfl) rfl (fun hMw hav => ?_)
  refine g_iload_n (q0 := 1) (j := 0) rfl dJ3_checkIndex_8e157_0 rfl ?_
  refine g_if_lt (q0 := 4) (tgt := 9) rfl dJ3_checkIndex_8e157_1 (by decide) (fun h1 => ?_) (fun h1 => ?_)
  · omega
  · refine g_iload_n (q0 := 5) (j := 0) rfl dJ3_checkIndex_8e157_4 rfl ?_
    refine g_iload_n (q0 := 6) (j := 1) rfl dJ3_checkIndex_8e157_5 rfl ?_
    refine g_icmp_lt (q0 := 9) (tgt := 16) rfl dJ3_checkIndex_8e157_6 (by decide) (fun h6 => ?_) (fun h6 => ?_)
    · refine g_iload_n (q0 := 17) (j := 0) rfl dJ3_checkIndex_8e157_16 rfl ?_
      refine g_ireturn dJ3_checkIndex_8e157_17 rfl ⟨Nat.zero_le _, Nat.zero_le _⟩ ?_
      exact ⟨rfl, rfl, rfl⟩
    · omega
theorem sp_J0_checkIndex {sh : gS} {M : gM} {x n : Int} (h : 0 ≤ x ∧ x < n) : gC (gr 2 42) yJ0_checkIndex_df160 cJ0_checkIndex_df160 2 none [(0, x), (0, n)] sh M (gPm sh (fun r M1 => r = none ∧ M1 = M)) := by
  refine gC_ofA (lv := [_, _]) (by decide +kernel) (Nat.le_of_ble_eq_true rfl) rfl (fun hMw hav => ?_)
  refine g_iload_n (q0 := 1) (j := 0) rfl dJ0_checkIndex_df160_0 rfl ?_
  refine g_iload_n (q0 := 2) (j := 1) rfl dJ0_checkIndex_df160_1 rfl ?_
  refine g_gsForm (q0 := 5) rfl fs_J0_1053 dJ0_checkIndex_df160_2 ?_
  refine g_callSp (as := [_, _, _]) (rest := []) mt_J3_checkIndex_8e157 ms_J3_checkIndex_8e157 ml_J0_1059 dJ0_checkIndex_df160_5 (q0 := 8) rfl rfl (sp_J3_checkIndex h) rfl ⟨by decide, by decide⟩ (Nat.le_of_ble_eq_true rfl) ⟨Nat.zero_le _, Nat.zero_le _⟩ (fun hwc => ?_)
  refine g_pop (q0 := 9) rfl dJ0_checkIndex_df160_8 (k := ?_)
  refine g_return dJ0_checkIndex_df160_9 rfl ⟨Nat.zero_le _, Nat.zero_le _⟩ ?_
  exact ⟨rfl, rfl, rfl⟩
theorem sp_J0_coder {sh : gS} {M : gM} {i : Nat} (hi : i < 15) : gC (gr 0 0) yJ0_coder_7d493 cJ0_coder_7d493 1 (some (.byte)) [(5, (i : Int))] sh M (gPp sh M (0, 0)) := by
  refine gC_ofA (lv := [_]) (by decide +kernel) (Nat.le_of_ble_eq_true rfl) rfl (fun hMw hav => ?_)
  refine g_gsCompact (q0 := 3) rfl fs_J0_38 dJ0_coder_7d493_0 ?_
  refine g_if_eq (q0 := 6) (tgt := 13) rfl dJ0_coder_7d493_3 (by decide) (fun h3 => ?_) (fun h3 => ?_)
  · omega
  · refine g_aload5_n (q0 := 7) (j := 0) rfl dJ0_coder_7d493_6 rfl ?_
    refine g_scod (q0 := 10) rfl hi fs_J0_15 dJ0_coder_7d493_7 ?_
    refine g_goto (tgt := 14) dJ0_coder_7d493_10 (by decide) ?_
    refine g_zreturn dJ0_coder_7d493_14 rfl (by first | rfl | exact gnz (by omega)) ⟨Nat.zero_le _, Nat.zero_le _⟩ ?_
    exact ⟨rfl, rfl, rfl⟩
theorem sp_J0_isLatin1 {sh : gS} {M : gM} {i : Nat} (hi : i < 15) : gC (gr 0 0) yJ0_isLatin1_aae02 cJ0_isLatin1_aae02 1 (some (.boolean)) [(5, (i : Int))] sh M (gPp sh M (0, 1)) := by
  refine gC_ofA (lv := [_]) (by decide +kernel) (Nat.le_of_ble_eq_true rfl) rfl (fun hMw hav => ?_)
  refine g_gsCompact (q0 := 3) rfl fs_J0_38 dJ0_isLatin1_aae02_0 ?_
  refine g_if_eq (q0 := 6) (tgt := 17) rfl dJ0_isLatin1_aae02_3 (by decide) (fun h3 => ?_) (fun h3 => ?_)
  · omega
  · refine g_aload5_n (q0 := 7) (j := 0) rfl dJ0_isLatin1_aae02_6 rfl ?_
    refine g_scod (q0 := 10) rfl hi fs_J0_15 dJ0_isLatin1_aae02_7 ?_
    refine g_if_ne (q0 := 13) (tgt := 17) rfl dJ0_isLatin1_aae02_10 (by decide) (fun h10 => ?_) (fun h10 => ?_)
    · omega
    · refine g_iconst (q0 := 14) rfl dJ0_isLatin1_aae02_13 (k := ?_)
      refine g_goto (tgt := 18) dJ0_isLatin1_aae02_14 (by decide) ?_
      refine g_zreturn dJ0_isLatin1_aae02_18 rfl (by first | rfl | exact gnz (by omega)) ⟨Nat.zero_le _, Nat.zero_le _⟩ ?_
      exact ⟨rfl, rfl, rfl⟩
theorem sp_J0_length {sh : gS} {M : gM} {i : Nat} (hi : i < 15) : gC (gr 1 20) yJ0_length_8abf5 cJ0_length_8abf5 1 (some (.int)) [(5, (i : Int))] sh M (gPp sh M (0, ((gSlen.getD i 0 : Nat) : Int))) := by
  obtain ⟨s1, s2, s3⟩ := sl_all i hi
  refine gC_ofA (lv := [_]) (by decide +kernel) (Nat.le_of_ble_eq_true rfl) rfl (fun hMw hav => ?_)
  refine g_aload5_n (q0 := 1) (j := 0) rfl dJ0_length_8abf5_0 rfl ?_
  refine g_sval (q0 := 4) rfl hi fs_J0_9 dJ0_length_8abf5_1 ?_
  refine g_slen (q0 := 5) rfl hi dJ0_length_8abf5_4 ?_
  refine g_aload5_n (q0 := 6) (j := 0) rfl dJ0_length_8abf5_5 rfl ?_
  refine g_callW hi (as := []) (rest := [_]) mt_J0_coder_7d493 mi_J0_coder_7d493 se_J0_coder_7d493 ml_J0_335 dJ0_length_8abf5_6 (q0 := 9) rfl rfl rfl (sp_J0_coder hi) rfl ⟨by decide, by decide⟩ (Nat.le_of_ble_eq_true rfl) ⟨Nat.zero_le _, Nat.zero_le _⟩ (fun hwc => ?_)
  refine g_ishr (q0 := 10) rfl dJ0_length_8abf5_9 ?_
  refine g_ireturn dJ0_length_8abf5_10 rfl ⟨Nat.zero_le _, Nat.zero_le _⟩ ?_
  exact ⟨by rw [s3], rfl, rfl⟩
theorem sp_J1_charAt {sh : gS} {M : gM} {i j : Nat} (hi : i < 15) (hj : j < gSlen.getD i 0) : gC (gr 3 63) yJ1_charAt_3b067 cJ1_charAt_3b067 2 (some (.char)) [(5, ((15 + i : Nat) : Int)), (0, (j : Int))] sh M (gPp sh M (0, sC i j)) := by
  obtain ⟨s1, s2, s3⟩ := sl_all i hi
  obtain ⟨c1, c2⟩ := sC_all i hi j (by omega)
  refine gC_ofA (lv := [_, _]) (by decide +kernel) (Nat.le_of_ble_eq_true rfl) rfl (fun hMw hav => ?_)
  refine g_iload_n (q0 := 1) (j := 1) rfl dJ1_charAt_3b067_0 rfl ?_
  refine g_aload5_n (q0 := 2) (j := 0) rfl dJ1_charAt_3b067_1 rfl ?_
  refine g_slen (q0 := 3) rfl hi dJ1_charAt_3b067_2 ?_
  refine g_callSm (as := [_, _]) (rest := []) mt_J0_checkIndex_df160 ms_J0_checkIndex_df160 ml_J1_9 dJ1_charAt_3b067_3 (q0 := 6) rfl rfl (sp_J0_checkIndex (by omega)) rfl ⟨by decide, by decide⟩ (Nat.le_of_ble_eq_true rfl) ⟨Nat.zero_le _, Nat.zero_le _⟩ (fun r1 M1 hP1 hw1 hMw1 => ?_)
  obtain ⟨rfl, rfl⟩ := hP1
  refine g_aload5_n (q0 := 7) (j := 0) rfl dJ1_charAt_3b067_6 rfl ?_
  refine g_iload_n (q0 := 8) (j := 1) rfl dJ1_charAt_3b067_7 rfl ?_
  refine g_sbld (q0 := 9) rfl hi dJ1_charAt_3b067_8 (by omega) (by omega) ?_
  refine g_sipush (q0 := 12) rfl dJ1_charAt_3b067_9 (k := ?_)
  refine g_iand (q0 := 13) rfl dJ1_charAt_3b067_12 ?_
  refine g_i2c (q0 := 14) rfl dJ1_charAt_3b067_13 ?_
  refine g_zreturn dJ1_charAt_3b067_14 rfl (by rw [show ((gSbyt.getD i []).getD (j : Int).toNat 0).toInt = sC i j from rfl, c1]; exact c2) ⟨Nat.zero_le _, Nat.zero_le _⟩ ?_
  exact ⟨by rw [show ((gSbyt.getD i []).getD (j : Int).toNat 0).toInt = sC i j from rfl, c1], rfl, rfl⟩
theorem sp_J0_charAt {sh : gS} {M : gM} {i j : Nat} (hi : i < 15) (hj : j < gSlen.getD i 0) : gC (gr 5 105) yJ0_charAt_5068e cJ0_charAt_5068e 2 (some (.char)) [(5, (i : Int)), (0, (j : Int))] sh M (gPp sh M (0, sC i j)) := by
  obtain ⟨s1, s2, s3⟩ := sl_all i hi
  obtain ⟨c1, c2⟩ := sC_all i hi j (by omega)
  refine gC_ofA (lv := [_, _]) (by decide +kernel) (Nat.le_of_ble_eq_true rfl) rfl (fun hMw hav => ?_)
  refine g_aload5_n (q0 := 1) (j := 0) rfl dJ0_charAt_5068e_0 rfl ?_
  refine g_callW hi (as := []) (rest := []) mt_J0_isLatin1_aae02 mi_J0_isLatin1_aae02 se_J0_isLatin1_aae02 ml_J0_492 dJ0_charAt_5068e_1 (q0 := 4) rfl rfl rfl (sp_J0_isLatin1 hi) rfl ⟨by decide, by decide⟩ (Nat.le_of_ble_eq_true rfl) ⟨Nat.zero_le _, Nat.zero_le _⟩ (fun hwc => ?_)
  refine g_if_eq (q0 := 7) (tgt := 16) rfl dJ0_charAt_5068e_4 (by decide) (fun h4 => ?_) (fun h4 => ?_)
  · omega
  · refine g_aload5_n (q0 := 8) (j := 0) rfl dJ0_charAt_5068e_7 rfl ?_
    refine g_sval (q0 := 11) rfl hi fs_J0_9 dJ0_charAt_5068e_8 ?_
    refine g_iload_n (q0 := 12) (j := 1) rfl dJ0_charAt_5068e_11 rfl ?_
    refine g_callSp (as := [_, _]) (rest := []) mt_J1_charAt_3b067 ms_J1_charAt_3b067 ml_J0_495 dJ0_charAt_5068e_12 (q0 := 15) rfl rfl (sp_J1_charAt hi hj) rfl ⟨by decide, by decide⟩ (Nat.le_of_ble_eq_true rfl) ⟨Nat.zero_le _, Nat.zero_le _⟩ (fun hwc => ?_)
    refine g_zreturn dJ0_charAt_5068e_15 rfl (c2) ⟨Nat.zero_le _, Nat.zero_le _⟩ ?_
    exact ⟨rfl, rfl, rfl⟩
