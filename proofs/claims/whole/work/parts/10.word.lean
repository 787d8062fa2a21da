-- ==== the tape of the class: words and paths
theorem sp_X9_word {sh : gS} {M : gM} {p : Int} {s : List Int} (hOK : gOK sh M) (hT : tpIn M p s) :
    gC (gr 1 22) yX9_word cX9_word 3 (some (.int)) [(4, 1)] sh M (gPm sh (tP M (pWord s p))) := by
  have hl := tpIn_len hT
  have hM2 := hT.1
  refine gC_ofA (lv := [_, _, _]) (by decide +kernel) (Nat.le_of_ble_eq_true rfl) rfl (fun hMw hav => ?_)
  have lp : ∀ (k : Nat) (v q i : Int) (n : Nat) (s1 : List Int) (M1 : gM), i = (n : Int) → n + k = 4 → 0 ≤ v → v < (32 : Int) ^ n → M1 = tM M q (M 1 4) → tpIn M1 q s1 → pWordGo k v s1 q = pWord s p →
      gA (gr 1 22) yX9_word cX9_word 3 (some (.int)) (gPm sh (tP M (pWord s p))) (0, 0) 22 [(4, 1), (0, v), (0, i)] [] sh M1 := by
    intro k
    induction k with
    | zero =>
      intro v q i n s1 M1 hi hn h0 h1 hM hT1 hv
      have hO1 : gOK sh M1 := by rw [hM]; exact gOK_tM hOK
      have hl1 := tpIn_len hT1
      refine g_iload_n (q0 := 23) (j := 2) rfl dX9_word_22 rfl ?_
      refine g_iconst (q0 := 24) rfl dX9_word_23 (k := ?_)
      refine g_icmp_gt (q0 := 27) (tgt := 80) rfl dX9_word_24 (by decide) (fun h24 => ?_) (fun h24 => ?_)
      · omega
      · refine g_aload_n (q0 := 28) (j := 0) rfl dX9_word_27 rfl ?_
        refine g_callVp (as := []) (rest := []) mt_X9_isLetter mi_X9_isLetter se_X9_isLetter ml_X9_46 dX9_word_28 (q0 := 31) rfl rfl (sh_1 hO1) rfl rfl (sp_X9_isLetter hO1 hT1) rfl ⟨by decide, by decide⟩ (Nat.le_of_ble_eq_true rfl) ⟨Nat.zero_le _, Nat.zero_le _⟩ (fun hwc => ?_)
        refine g_if_eq (q0 := 34) (tgt := 80) rfl dX9_word_31 (by decide) (fun h31 => ?_) (fun h31 => ?_)
        · have hnd : ¬ (97 ≤ hd s1 ∧ hd s1 ≤ 122) := by
            intro q9; rw [if_pos q9] at h31; exact absurd h31 (by decide)
          refine g_iload_n (q0 := 81) (j := 1) rfl dX9_word_80 rfl ?_
          refine g_ireturn dX9_word_81 rfl ⟨Nat.zero_le _, Nat.zero_le _⟩ ?_
          have e : pWord s p = (0, v, q, s1) := by
            rw [← hv]
            cases s1 with
            | nil => rfl
            | cons c r => rw [pWordGo]; exact if_neg hnd
          rw [e]
          exact ⟨rfl, rfl, by rw [hM, ff0], hT1⟩
        · have hd4 : 97 ≤ hd s1 ∧ hd s1 ≤ 122 := by
            by_cases q9 : 97 ≤ hd s1 ∧ hd s1 ≤ 122
            · exact q9
            · rw [if_neg q9] at h31; exact absurd rfl h31
          refine g_iload_n (q0 := 35) (j := 2) rfl dX9_word_34 rfl ?_
          refine g_iconst (q0 := 36) rfl dX9_word_35 (k := ?_)
          refine g_icmp_ne (q0 := 39) (tgt := 50) rfl dX9_word_36 (by decide) (fun h36 => ?_) (fun h36 => ?_)
          · omega
          · refine g_aload_n (q0 := 40) (j := 0) rfl dX9_word_39 rfl ?_
            refine g_iconst (q0 := 41) rfl dX9_word_40 (k := ?_)
            refine g_aload_n (q0 := 42) (j := 0) rfl dX9_word_41 rfl ?_
            refine g_getf (q0 := 45) (t := 0) (fi := 2) rfl rfl ff_X9_19 dX9_word_42 rfl (sh_1 hO1) ?_
            rw [hT1.1]
            refine g_callVm (as := [_, _]) (rest := []) mt_X9_fail mi_X9_fail se_X9_fail ml_X9_38 dX9_word_45 (q0 := 48) rfl rfl (sh_1 hO1) rfl rfl (sp_X9_fail hO1 ⟨by omega, by omega⟩ ⟨by omega, by omega⟩) rfl ⟨by decide, by decide⟩ (Nat.le_of_ble_eq_true rfl) ⟨Nat.zero_le _, Nat.zero_le _⟩ (fun r1 M1 hP1 hw1 hMw1 => ?_)
            obtain ⟨rfl, rfl⟩ := hP1
            refine g_iconst (q0 := 49) rfl dX9_word_48 (k := ?_)
            refine g_ireturn dX9_word_49 rfl ⟨Nat.zero_le _, Nat.zero_le _⟩ ?_
            have e : pWord s p = (-2000 - q, -1, q, s1) := by
              rw [← hv]
              cases s1 with
              | nil => exact absurd hd4.1 (by decide)
              | cons c r => rw [pWordGo]; exact if_pos hd4
            rw [e]
            refine ⟨rfl, rfl, ?_, ?_⟩
            · rw [hM, tM_tM, tM_p, tM_f]; rfl
            · rw [hT1.1]; exact tpIn_self hT1
    | succ k ih =>
      intro v q i n s1 M1 hi hn h0 h1 hM hT1 hv
      have hO1 : gOK sh M1 := by rw [hM]; exact gOK_tM hOK
      have hl1 := tpIn_len hT1
      have hq := hT1.1
      have hv2 : v < 32768 := by
        have : n = 0 ∨ n = 1 ∨ n = 2 ∨ n = 3 := by omega
        rcases this with rfl | rfl | rfl | rfl <;> simp at h1 <;> omega
      refine g_iload_n (q0 := 23) (j := 2) rfl dX9_word_22 rfl ?_
      refine g_iconst (q0 := 24) rfl dX9_word_23 (k := ?_)
      refine g_icmp_gt (q0 := 27) (tgt := 80) rfl dX9_word_24 (by decide) (fun h24 => ?_) (fun h24 => ?_)
      · omega
      · refine g_aload_n (q0 := 28) (j := 0) rfl dX9_word_27 rfl ?_
        refine g_callVp (as := []) (rest := []) mt_X9_isLetter mi_X9_isLetter se_X9_isLetter ml_X9_46 dX9_word_28 (q0 := 31) rfl rfl (sh_1 hO1) rfl rfl (sp_X9_isLetter hO1 hT1) rfl ⟨by decide, by decide⟩ (Nat.le_of_ble_eq_true rfl) ⟨Nat.zero_le _, Nat.zero_le _⟩ (fun hwc => ?_)
        refine g_if_eq (q0 := 34) (tgt := 80) rfl dX9_word_31 (by decide) (fun h31 => ?_) (fun h31 => ?_)
        · have hnd : ¬ (97 ≤ hd s1 ∧ hd s1 ≤ 122) := by
            intro q9; rw [if_pos q9] at h31; exact absurd h31 (by decide)
          refine g_iload_n (q0 := 81) (j := 1) rfl dX9_word_80 rfl ?_
          refine g_ireturn dX9_word_81 rfl ⟨Nat.zero_le _, Nat.zero_le _⟩ ?_
          have e : pWord s p = (0, v, q, s1) := by
            rw [← hv]
            cases s1 with
            | nil => rfl
            | cons c r => rw [pWordGo]; exact if_neg hnd
          rw [e]
          exact ⟨rfl, rfl, by rw [hM, ff0], hT1⟩
        · have hd4 : 97 ≤ hd s1 ∧ hd s1 ≤ 122 := by
            by_cases q9 : 97 ≤ hd s1 ∧ hd s1 ≤ 122
            · exact q9
            · rw [if_neg q9] at h31; exact absurd rfl h31
          cases s1 with
          | nil => exact absurd hd4.1 (by decide)
          | cons c r =>
            have e0 : hd (c :: r) = c := rfl
            rw [e0] at hd4
            simp only [List.length_cons] at hl1
            refine g_iload_n (q0 := 35) (j := 2) rfl dX9_word_34 rfl ?_
            refine g_iconst (q0 := 36) rfl dX9_word_35 (k := ?_)
            refine g_icmp_ne (q0 := 39) (tgt := 50) rfl dX9_word_36 (by decide) (fun h36 => ?_) (fun h36 => ?_)
            · refine g_iload_n (q0 := 51) (j := 1) rfl dX9_word_50 rfl ?_
              refine g_iconst (q0 := 52) rfl dX9_word_51 (k := ?_)
              refine g_ishl (q0 := 53) rfl dX9_word_52 ?_
              refine g_aload_n (q0 := 54) (j := 0) rfl dX9_word_53 rfl ?_
              refine g_callVp (as := []) (rest := [_]) mt_X9_next mi_X9_next se_X9_next ml_X9_34 dX9_word_54 (q0 := 57) rfl rfl (sh_1 hO1) rfl rfl (sp_X9_next hO1 hT1) rfl ⟨by decide, by decide⟩ (Nat.le_of_ble_eq_true rfl) ⟨Nat.zero_le _, Nat.zero_le _⟩ (fun hwc => ?_)
              rw [e0]
              have eg : gshl v 5 = v * 32 := by
                rw [gshl_mul h0 5 5 (by decide +kernel) (by simp; omega)]
                simp
              have eo : gor (gshl v 5) (c - 97 + 1) = 32 * v + c - 96 := by
                rw [eg, gor_add 5 (by omega) (by omega) (by omega) (by simp; omega) (by decide) (by simp)]
                omega
              refine g_bipush (q0 := 59) rfl dX9_word_57 (k := ?_)
              refine g_isub (q0 := 60) rfl dX9_word_59 (by omega) (by omega) ?_
              refine g_iconst (q0 := 61) rfl dX9_word_60 (k := ?_)
              refine g_iadd (q0 := 62) rfl dX9_word_61 (by omega) (by omega) ?_
              refine g_ior (q0 := 63) rfl dX9_word_62 ?_
              refine g_istore_n (q0 := 64) (j := 1) (lv2 := [_, _, _]) rfl dX9_word_63 (by decide) rfl rfl ?_
              refine g_aload_n (q0 := 65) (j := 0) rfl dX9_word_64 rfl ?_
              refine g_dup (q0 := 66) rfl dX9_word_65 (k := ?_)
              refine g_getf (q0 := 69) (t := 0) (fi := 2) rfl rfl ff_X9_19 dX9_word_66 rfl (sh_1 hO1) ?_
              refine g_iconst (q0 := 70) rfl dX9_word_69 (k := ?_)
              refine g_iadd (q0 := 71) rfl dX9_word_70 (by omega) (by omega) ?_
              refine g_put (q0 := 74) (t := 0) (fi := 2) rfl rfl ff_X9_19 dX9_word_71 rfl (sh_1 hO1) rfl (fun _ => ⟨rfl, rfl⟩) ?_
              refine g_iinc (q0 := 77) (lv2 := [_, _, _]) rfl dX9_word_74 rfl (by decide) rfl rfl (by omega) (by omega) ?_
              refine g_goto (tgt := 22) dX9_word_77 (by decide) ?_
              rw [eo]
              refine ih (32 * v + c - 96) (q + 1) (i + 1) (n + 1) r _ (by omega) (by omega) (by omega) (by rw [Int.pow_succ]; omega) ?_ (tadv hT1).2 (by rw [← hv, pWordGo, if_pos hd4])
              rw [(tadv hT1).1, hM, tM_tM, tM_f, ff0]
            · omega
  refine g_aload_n (q0 := 1) (j := 0) rfl dX9_word_0 rfl ?_
  refine g_callVp (as := []) (rest := []) mt_X9_isLetter mi_X9_isLetter se_X9_isLetter ml_X9_46 dX9_word_1 (q0 := 4) rfl rfl (sh_1 hOK) rfl rfl (sp_X9_isLetter hOK hT) rfl ⟨by decide, by decide⟩ (Nat.le_of_ble_eq_true rfl) ⟨Nat.zero_le _, Nat.zero_le _⟩ (fun hwc => ?_)
  refine g_if_ne (q0 := 7) (tgt := 18) rfl dX9_word_4 (by decide) (fun h4 => ?_) (fun h4 => ?_)
  · have hd4 : 97 ≤ hd s ∧ hd s ≤ 122 := by
      by_cases q : 97 ≤ hd s ∧ hd s ≤ 122
      · exact q
      · rw [if_neg q] at h4; exact absurd rfl h4
    refine g_iconst (q0 := 19) rfl dX9_word_18 (k := ?_)
    refine g_istore_n (q0 := 20) (j := 1) (lv2 := [_, _, _]) rfl dX9_word_19 (by decide) rfl rfl ?_
    refine g_iconst (q0 := 21) rfl dX9_word_20 (k := ?_)
    refine g_istore_n (q0 := 22) (j := 2) (lv2 := [_, _, _]) rfl dX9_word_21 (by decide) rfl rfl ?_
    exact lp 4 0 p 0 0 s M (by omega) (by omega) (by omega) (by simp) (by rw [← hT.1, tM_id]) hT (by rw [pWord, if_pos hd4])
  · have hd4 : ¬ (97 ≤ hd s ∧ hd s ≤ 122) := by
      intro q
      rw [if_pos q] at h4; exact absurd h4 (by decide)
    refine g_aload_n (q0 := 8) (j := 0) rfl dX9_word_7 rfl ?_
    refine g_iconst (q0 := 9) rfl dX9_word_8 (k := ?_)
    refine g_aload_n (q0 := 10) (j := 0) rfl dX9_word_9 rfl ?_
    refine g_getf (q0 := 13) (t := 0) (fi := 2) rfl rfl ff_X9_19 dX9_word_10 rfl (sh_1 hOK) ?_
    rw [hT.1]
    refine g_callVm (as := [_, _]) (rest := []) mt_X9_fail mi_X9_fail se_X9_fail ml_X9_38 dX9_word_13 (q0 := 16) rfl rfl (sh_1 hOK) rfl rfl (sp_X9_fail hOK ⟨by omega, by omega⟩ ⟨by omega, by omega⟩) rfl ⟨by decide, by decide⟩ (Nat.le_of_ble_eq_true rfl) ⟨Nat.zero_le _, Nat.zero_le _⟩ (fun r1 M1 hP1 hw1 hMw1 => ?_)
    obtain ⟨rfl, rfl⟩ := hP1
    refine g_iconst (q0 := 17) rfl dX9_word_16 (k := ?_)
    refine g_ireturn dX9_word_17 rfl ⟨Nat.zero_le _, Nat.zero_le _⟩ ?_
    rw [pWord, if_neg hd4]
    exact ⟨rfl, rfl, by rw [hT.1]; rfl, by rw [hT.1]; exact tpIn_self hT⟩
theorem wp_all : ∀ n : Nat, n < 6 → (2 ^ (25 - 5 * n) : Nat) = 33554432 / 32 ^ n ∧ (n < 5 → (2 ^ (25 - 5 * n) : Nat) / 32 = 2 ^ (25 - 5 * (n + 1))) := by decide
theorem wp_le {v w : Int} {n : Nat} (hn : n < 6) (hw : w = (2 ^ (25 - 5 * n) : Nat)) (h0 : 0 ≤ v) (h1 : v < 1073741824) (hm : v % (32 * w) = 0) : v + 32 * w ≤ 1073741824 ∧ 0 < w ∧ (n < 5 → w / 32 = (2 ^ (25 - 5 * (n + 1)) : Nat) ∧ 32 * (w / 32) = w) ∧ ∀ c : Int, (v + c * w) % w = 0 := by
  have hpos : (0 : Int) < w := by rw [hw]; exact_mod_cast Nat.two_pow_pos _
  have hmm : ∀ c : Int, (v + c * w) % w = 0 := by
    intro c
    rw [Int.add_mul_emod_self_right]
    obtain ⟨q, hq⟩ := Int.dvd_of_emod_eq_zero hm
    rw [hq, Int.mul_comm 32 w, Int.mul_assoc]
    exact Int.mul_emod_right _ _
  refine ⟨?_, hpos, ?_, hmm⟩
  · have : n = 0 ∨ n = 1 ∨ n = 2 ∨ n = 3 ∨ n = 4 ∨ n = 5 := by omega
    rcases this with rfl | rfl | rfl | rfl | rfl | rfl <;> simp at hw <;> subst hw <;> omega
  · intro h5
    have : n = 0 ∨ n = 1 ∨ n = 2 ∨ n = 3 ∨ n = 4 := by omega
    rcases this with rfl | rfl | rfl | rfl | rfl <;> simp at hw <;> subst hw <;> decide
theorem sp_X9_path {sh : gS} {M : gM} {p : Int} {most : Nat} {s : List Int} (hOK : gOK sh M) (hT : tpIn M p s) (hm : most ≤ 6) :
    gC (gr 1 22) yX9_path cX9_path 4 (some (.int)) [(4, 1), (0, (most : Int))] sh M (gPm sh (tP M (pPath most s p))) := by
  have hl := tpIn_len hT
  have hM2 := hT.1
  refine gC_ofA (lv := [_, _, _, _]) (by decide +kernel) (Nat.le_of_ble_eq_true rfl) rfl (fun hMw hav => ?_)
  have lp : ∀ (k : Nat) (v w q : Int) (n : Nat) (s1 : List Int) (M1 : gM), n + k = most → 0 ≤ v → v < 1073741824 → (0 < k → w = (2 ^ (25 - 5 * n) : Nat) ∧ v % (32 * w) = 0) → M1 = tM M q (M 1 4) → tpIn M1 q s1 → pPathGo k w v s1 q = pPath most s p →
      gA (gr 1 22) yX9_path cX9_path 4 (some (.int)) (gPm sh (tP M (pPath most s p))) (0, 0) 4 [(4, 1), (0, (most : Int)), (0, v), (0, (n : Int))] [] sh M1 := by
    intro k
    induction k with
    | zero =>
      intro v w q n s1 M1 hn h0 h1 hw hM hT1 hv
      have hO1 : gOK sh M1 := by rw [hM]; exact gOK_tM hOK
      have hl1 := tpIn_len hT1
      refine g_iload_n (q0 := 5) (j := 3) rfl dX9_path_4 rfl ?_
      refine g_iload_n (q0 := 6) (j := 1) rfl dX9_path_5 rfl ?_
      refine g_icmp_gt (q0 := 9) (tgt := 95) rfl dX9_path_6 (by decide) (fun h6 => ?_) (fun h6 => ?_)
      · omega
      · refine g_aload_n (q0 := 10) (j := 0) rfl dX9_path_9 rfl ?_
        refine g_callVp (as := []) (rest := []) mt_X9_isLetter mi_X9_isLetter se_X9_isLetter ml_X9_46 dX9_path_10 (q0 := 13) rfl rfl (sh_1 hO1) rfl rfl (sp_X9_isLetter hO1 hT1) rfl ⟨by decide, by decide⟩ (Nat.le_of_ble_eq_true rfl) ⟨Nat.zero_le _, Nat.zero_le _⟩ (fun hwc => ?_)
        refine g_if_ne (q0 := 16) (tgt := 27) rfl dX9_path_13 (by decide) (fun h13 => ?_) (fun h13 => ?_)
        · have hd4 : 97 ≤ hd s1 ∧ hd s1 ≤ 122 := by
            by_cases q9 : 97 ≤ hd s1 ∧ hd s1 ≤ 122
            · exact q9
            · rw [if_neg q9] at h13; exact absurd rfl h13
          refine g_iload_n (q0 := 28) (j := 3) rfl dX9_path_27 rfl ?_
          refine g_iload_n (q0 := 29) (j := 1) rfl dX9_path_28 rfl ?_
          refine g_icmp_ne (q0 := 32) (tgt := 43) rfl dX9_path_29 (by decide) (fun h29 => ?_) (fun h29 => ?_)
          · omega
          · refine g_aload_n (q0 := 33) (j := 0) rfl dX9_path_32 rfl ?_
            refine g_iconst (q0 := 34) rfl dX9_path_33 (k := ?_)
            refine g_aload_n (q0 := 35) (j := 0) rfl dX9_path_34 rfl ?_
            refine g_getf (q0 := 38) (t := 0) (fi := 2) rfl rfl ff_X9_19 dX9_path_35 rfl (sh_1 hO1) ?_
            rw [hT1.1]
            refine g_callVm (as := [_, _]) (rest := []) mt_X9_fail mi_X9_fail se_X9_fail ml_X9_38 dX9_path_38 (q0 := 41) rfl rfl (sh_1 hO1) rfl rfl (sp_X9_fail hO1 ⟨by omega, by omega⟩ ⟨by omega, by omega⟩) rfl ⟨by decide, by decide⟩ (Nat.le_of_ble_eq_true rfl) ⟨Nat.zero_le _, Nat.zero_le _⟩ (fun r1 M1 hP1 hw1 hMw1 => ?_)
            obtain ⟨rfl, rfl⟩ := hP1
            refine g_iconst (q0 := 42) rfl dX9_path_41 (k := ?_)
            refine g_ireturn dX9_path_42 rfl ⟨Nat.zero_le _, Nat.zero_le _⟩ ?_
            have e : pPath most s p = (-5000 - q, -1, q, s1) := by
              rw [← hv]
              cases s1 with
              | nil => exact absurd hd4.1 (by decide)
              | cons c r => rw [pPathGo]; exact if_pos hd4
            rw [e]
            refine ⟨rfl, rfl, ?_, ?_⟩
            · rw [hM, tM_tM, tM_p, tM_f]; rfl
            · rw [hT1.1]; exact tpIn_self hT1
        · have hnd : ¬ (97 ≤ hd s1 ∧ hd s1 ≤ 122) := by
            intro q9; rw [if_pos q9] at h13; exact absurd h13 (by decide)
          refine g_aload_n (q0 := 17) (j := 0) rfl dX9_path_16 rfl ?_
          refine g_iconst (q0 := 18) rfl dX9_path_17 (k := ?_)
          refine g_aload_n (q0 := 19) (j := 0) rfl dX9_path_18 rfl ?_
          refine g_getf (q0 := 22) (t := 0) (fi := 2) rfl rfl ff_X9_19 dX9_path_19 rfl (sh_1 hO1) ?_
          rw [hT1.1]
          refine g_callVm (as := [_, _]) (rest := []) mt_X9_fail mi_X9_fail se_X9_fail ml_X9_38 dX9_path_22 (q0 := 25) rfl rfl (sh_1 hO1) rfl rfl (sp_X9_fail hO1 ⟨by omega, by omega⟩ ⟨by omega, by omega⟩) rfl ⟨by decide, by decide⟩ (Nat.le_of_ble_eq_true rfl) ⟨Nat.zero_le _, Nat.zero_le _⟩ (fun r1 M1 hP1 hw1 hMw1 => ?_)
          obtain ⟨rfl, rfl⟩ := hP1
          refine g_iconst (q0 := 26) rfl dX9_path_25 (k := ?_)
          refine g_ireturn dX9_path_26 rfl ⟨Nat.zero_le _, Nat.zero_le _⟩ ?_
          have e : pPath most s p = (-1000 - q, -1, q, s1) := by
            rw [← hv]
            cases s1 with
            | nil => rfl
            | cons c r => rw [pPathGo]; exact if_neg hnd
          rw [e]
          refine ⟨rfl, rfl, ?_, ?_⟩
          · rw [hM, tM_tM, tM_p, tM_f]; rfl
          · rw [hT1.1]; exact tpIn_self hT1
    | succ k ih =>
      intro v w q n s1 M1 hn h0 h1 hw hM hT1 hv
      obtain ⟨hw, hmod⟩ := hw (by omega)
      have hO1 : gOK sh M1 := by rw [hM]; exact gOK_tM hOK
      have hl1 := tpIn_len hT1
      have hq := hT1.1
      obtain ⟨w1, w2, w3, w4⟩ := wp_le (by omega) hw h0 h1 hmod
      refine g_iload_n (q0 := 5) (j := 3) rfl dX9_path_4 rfl ?_
      refine g_iload_n (q0 := 6) (j := 1) rfl dX9_path_5 rfl ?_
      refine g_icmp_gt (q0 := 9) (tgt := 95) rfl dX9_path_6 (by decide) (fun h6 => ?_) (fun h6 => ?_)
      · omega
      · refine g_aload_n (q0 := 10) (j := 0) rfl dX9_path_9 rfl ?_
        refine g_callVp (as := []) (rest := []) mt_X9_isLetter mi_X9_isLetter se_X9_isLetter ml_X9_46 dX9_path_10 (q0 := 13) rfl rfl (sh_1 hO1) rfl rfl (sp_X9_isLetter hO1 hT1) rfl ⟨by decide, by decide⟩ (Nat.le_of_ble_eq_true rfl) ⟨Nat.zero_le _, Nat.zero_le _⟩ (fun hwc => ?_)
        refine g_if_ne (q0 := 16) (tgt := 27) rfl dX9_path_13 (by decide) (fun h13 => ?_) (fun h13 => ?_)
        · have hd4 : 97 ≤ hd s1 ∧ hd s1 ≤ 122 := by
            by_cases q9 : 97 ≤ hd s1 ∧ hd s1 ≤ 122
            · exact q9
            · rw [if_neg q9] at h13; exact absurd rfl h13
          cases s1 with
          | nil => exact absurd hd4.1 (by decide)
          | cons c r =>
            have e0 : hd (c :: r) = c := rfl
            rw [e0] at hd4
            simp only [List.length_cons] at hl1
            rw [pPathGo, if_pos hd4] at hv
            refine g_iload_n (q0 := 28) (j := 3) rfl dX9_path_27 rfl ?_
            refine g_iload_n (q0 := 29) (j := 1) rfl dX9_path_28 rfl ?_
            refine g_icmp_ne (q0 := 32) (tgt := 43) rfl dX9_path_29 (by decide) (fun h29 => ?_) (fun h29 => ?_)
            · refine g_iload_n (q0 := 44) (j := 2) rfl dX9_path_43 rfl ?_
              refine g_iload_n (q0 := 45) (j := 3) rfl dX9_path_44 rfl ?_
              refine g_aload_n (q0 := 46) (j := 0) rfl dX9_path_45 rfl ?_
              refine g_callVp (as := []) (rest := [_, _]) mt_X9_next mi_X9_next se_X9_next ml_X9_34 dX9_path_46 (q0 := 49) rfl rfl (sh_1 hO1) rfl rfl (sp_X9_next hO1 hT1) rfl ⟨by decide, by decide⟩ (Nat.le_of_ble_eq_true rfl) ⟨Nat.zero_le _, Nat.zero_le _⟩ (fun hwc => ?_)
              rw [e0]
              refine g_bipush (q0 := 51) rfl dX9_path_49 (k := ?_)
              refine g_isub (q0 := 52) rfl dX9_path_51 (by omega) (by omega) ?_
              refine g_iconst (q0 := 53) rfl dX9_path_52 (k := ?_)
              refine g_iadd (q0 := 54) rfl dX9_path_53 (by omega) (by omega) ?_
              refine g_callSp (as := [_, _, _]) (rest := []) mt_X10_withName ms_X10_withName ml_X9_49 dX9_path_54 (q0 := 57) rfl rfl (sp_X10_withName (by omega) hw ⟨h0, h1⟩ hmod ⟨by omega, by omega⟩) rfl ⟨by decide, by decide⟩ (Nat.le_of_ble_eq_true rfl) ⟨Nat.zero_le _, Nat.zero_le _⟩ (fun hwc => ?_)
              rw [show v + (c - 97 + 1) * w = v + (c - 96) * w from by rw [show c - 97 + 1 = c - 96 by omega]]
              have hcw : (c - 96) * w ≤ 31 * w := Int.mul_le_mul_of_nonneg_right (by omega) (by omega)
              have hcw0 : 0 ≤ (c - 96) * w := Int.mul_nonneg (by omega) (by omega)
              refine g_istore_n (q0 := 58) (j := 2) (lv2 := [_, _, _, _]) rfl dX9_path_57 (by decide) rfl rfl ?_
              refine g_aload_n (q0 := 59) (j := 0) rfl dX9_path_58 rfl ?_
              refine g_dup (q0 := 60) rfl dX9_path_59 (k := ?_)
              refine g_getf (q0 := 63) (t := 0) (fi := 2) rfl rfl ff_X9_19 dX9_path_60 rfl (sh_1 hO1) ?_
              refine g_iconst (q0 := 64) rfl dX9_path_63 (k := ?_)
              refine g_iadd (q0 := 65) rfl dX9_path_64 (by omega) (by omega) ?_
              refine g_put (q0 := 68) (t := 0) (fi := 2) rfl rfl ff_X9_19 dX9_path_65 rfl (sh_1 hO1) rfl (fun _ => ⟨rfl, rfl⟩) ?_
              have hT2 := (tadv hT1).2
              have hM2b : gU M1 1 2 (M1 1 2 + 1) = tM M (q + 1) (M 1 4) := by rw [(tadv hT1).1, hM, tM_tM, tM_f, ff0]
              have hO2 : gOK sh (gU M1 1 2 (M1 1 2 + 1)) := by rw [hM2b]; exact gOK_tM hOK
              have hl2 := tpIn_len hT2
              have hq2 := hT2.1
              generalize gU M1 1 2 (M1 1 2 + 1) = M2 at hT2 hM2b hO2 hq2 ⊢
              refine g_aload_n (q0 := 69) (j := 0) rfl dX9_path_68 rfl ?_
              refine g_callVp (as := []) (rest := []) mt_X9_next mi_X9_next se_X9_next ml_X9_34 dX9_path_69 (q0 := 72) rfl rfl (sh_1 hO2) rfl rfl (sp_X9_next hO2 hT2) rfl ⟨by decide, by decide⟩ (Nat.le_of_ble_eq_true rfl) ⟨Nat.zero_le _, Nat.zero_le _⟩ (fun hwc => ?_)
              refine g_bipush (q0 := 74) rfl dX9_path_72 (k := ?_)
              refine g_icmp_eq (q0 := 77) (tgt := 79) rfl dX9_path_74 (by decide) (fun h74 => ?_) (fun h74 => ?_)
              · rw [if_pos h74] at hv
                cases r with
                | nil => exact absurd h74 (by decide)
                | cons d r2 =>
                  simp only [List.length_cons] at hl1 hl2
                  refine g_aload_n (q0 := 80) (j := 0) rfl dX9_path_79 rfl ?_
                  refine g_dup (q0 := 81) rfl dX9_path_80 (k := ?_)
                  refine g_getf (q0 := 84) (t := 0) (fi := 2) rfl rfl ff_X9_19 dX9_path_81 rfl (sh_1 hO2) ?_
                  refine g_iconst (q0 := 85) rfl dX9_path_84 (k := ?_)
                  refine g_iadd (q0 := 86) rfl dX9_path_85 (by omega) (by omega) ?_
                  refine g_put (q0 := 89) (t := 0) (fi := 2) rfl rfl ff_X9_19 dX9_path_86 rfl (sh_1 hO2) rfl (fun _ => ⟨rfl, rfl⟩) ?_
                  refine g_iinc (q0 := 92) (lv2 := [_, _, _, _]) rfl dX9_path_89 rfl (by decide) rfl rfl (by omega) (by omega) ?_
                  refine g_goto (tgt := 4) dX9_path_92 (by decide) ?_
                  refine ih (v + (c - 96) * w) (w / 32) (q + 2) (n + 1) r2 _ (by omega) (by omega) (by omega) (fun hk => ?_) ?_ ?_ hv
                  · obtain ⟨a1, a2⟩ := w3 (by omega)
                    refine ⟨a1, ?_⟩
                    rw [a2]
                    exact w4 _
                  · rw [(tadv hT2).1, hM2b, tM_tM, tM_f, ff0]
                    congr 1
                    omega
                  · rw [show q + 2 = q + 1 + 1 by omega]
                    exact (tadv hT2).2
              · rw [if_neg h74] at hv
                refine g_iload_n (q0 := 78) (j := 2) rfl dX9_path_77 rfl ?_
                refine g_ireturn dX9_path_78 rfl ⟨Nat.zero_le _, Nat.zero_le _⟩ ?_
                rw [← hv]
                exact ⟨rfl, rfl, by rw [hM2b, ff0], hT2⟩
            · omega
        · have hnd : ¬ (97 ≤ hd s1 ∧ hd s1 ≤ 122) := by
            intro q9; rw [if_pos q9] at h13; exact absurd h13 (by decide)
          refine g_aload_n (q0 := 17) (j := 0) rfl dX9_path_16 rfl ?_
          refine g_iconst (q0 := 18) rfl dX9_path_17 (k := ?_)
          refine g_aload_n (q0 := 19) (j := 0) rfl dX9_path_18 rfl ?_
          refine g_getf (q0 := 22) (t := 0) (fi := 2) rfl rfl ff_X9_19 dX9_path_19 rfl (sh_1 hO1) ?_
          rw [hT1.1]
          refine g_callVm (as := [_, _]) (rest := []) mt_X9_fail mi_X9_fail se_X9_fail ml_X9_38 dX9_path_22 (q0 := 25) rfl rfl (sh_1 hO1) rfl rfl (sp_X9_fail hO1 ⟨by omega, by omega⟩ ⟨by omega, by omega⟩) rfl ⟨by decide, by decide⟩ (Nat.le_of_ble_eq_true rfl) ⟨Nat.zero_le _, Nat.zero_le _⟩ (fun r1 M1 hP1 hw1 hMw1 => ?_)
          obtain ⟨rfl, rfl⟩ := hP1
          refine g_iconst (q0 := 26) rfl dX9_path_25 (k := ?_)
          refine g_ireturn dX9_path_26 rfl ⟨Nat.zero_le _, Nat.zero_le _⟩ ?_
          have e : pPath most s p = (-1000 - q, -1, q, s1) := by
            rw [← hv]
            cases s1 with
            | nil => rfl
            | cons c r => rw [pPathGo]; exact if_neg hnd
          rw [e]
          refine ⟨rfl, rfl, ?_, ?_⟩
          · rw [hM, tM_tM, tM_p, tM_f]; rfl
          · rw [hT1.1]; exact tpIn_self hT1
  refine g_iconst (q0 := 1) rfl dX9_path_0 (k := ?_)
  refine g_istore_n (q0 := 2) (j := 2) (lv2 := [_, _, _, _]) rfl dX9_path_1 (by decide) rfl rfl ?_
  refine g_iconst (q0 := 3) rfl dX9_path_2 (k := ?_)
  refine g_istore_n (q0 := 4) (j := 3) (lv2 := [_, _, _, _]) rfl dX9_path_3 (by decide) rfl rfl ?_
  exact lp most 0 33554432 p 0 s M (by omega) (by omega) (by omega) (fun _ => ⟨rfl, rfl⟩) (by rw [← hT.1, tM_id]) hT rfl
/-- what a path that was read can be -/
theorem pPathGo_rng : ∀ (k n : Nat) (w v : Int) (s : List Int) (p : Int), n + k ≤ 6 → 0 ≤ v → v < 1073741824 → (0 < k → w = (2 ^ (25 - 5 * n) : Nat) ∧ v % (32 * w) = 0) → ((pPathGo k w v s p).1 = 0 ∧ 0 ≤ (pPathGo k w v s p).2.1 ∧ (pPathGo k w v s p).2.1 < 1073741824) ∨ ((pPathGo k w v s p).1 < 0 ∨ p < 0) ∧ (pPathGo k w v s p).2.1 = -1 := by
  intro k
  induction k with
  | zero =>
    intro n w v s p hn h0 h1 hw
    cases s with
    | nil => exact Or.inr ⟨by show -1000 - p < 0 ∨ p < 0; omega, rfl⟩
    | cons c r => right; simp only [pPathGo]; split <;> simp <;> omega
  | succ k ih =>
    intro n w v s p hn h0 h1 hw
    obtain ⟨hw, hmod⟩ := hw (by omega)
    obtain ⟨w1, w2, w3, w4⟩ := wp_le (by omega) hw h0 h1 hmod
    cases s with
    | nil => exact Or.inr ⟨by show -1000 - p < 0 ∨ p < 0; omega, rfl⟩
    | cons c r =>
      rw [pPathGo]
      by_cases hd4 : 97 ≤ c ∧ c ≤ 122
      · have hcw : (c - 96) * w ≤ 31 * w := Int.mul_le_mul_of_nonneg_right (by omega) (by omega)
        have hcw0 : 0 ≤ (c - 96) * w := Int.mul_nonneg (by omega) (by omega)
        rw [if_pos hd4]
        split
        · rcases ih (n + 1) (w / 32) (v + (c - 96) * w) r.tail (p + 2) (by omega) (by omega) (by omega) (fun hk => ⟨(w3 (by omega)).1, by rw [(w3 (by omega)).2]; exact w4 _⟩) with z | z
          · exact Or.inl z
          · right; exact ⟨by omega, z.2⟩
        · left; exact ⟨rfl, by show 0 ≤ v + (c - 96) * w; omega, by show v + (c - 96) * w < _; omega⟩
      · rw [if_neg hd4]; right; exact ⟨by show -1000 - p < 0 ∨ p < 0; omega, rfl⟩
