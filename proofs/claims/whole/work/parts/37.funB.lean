-- ==== isTooLong
theorem dX12_isTooLong_0 : decode cX12_isTooLong 0 = .ok (.iconst 0, 1) := by decide +kernel
theorem dX12_isTooLong_1 : decode cX12_isTooLong 1 = .ok (.istore_n 3, 1) := by decide +kernel
theorem dX12_isTooLong_2 : decode cX12_isTooLong 2 = .ok (.iload_n 3, 1) := by decide +kernel
theorem dX12_isTooLong_3 : decode cX12_isTooLong 3 = .ok (.aload_n 0, 1) := by decide +kernel
theorem dX12_isTooLong_4 : decode cX12_isTooLong 4 = .ok (.getfield 28, 3) := by decide +kernel
theorem dX12_isTooLong_7 : decode cX12_isTooLong 7 = .ok (.bipush 120, 2) := by decide +kernel
theorem dX12_isTooLong_9 : decode cX12_isTooLong 9 = .ok (.iaload, 1) := by decide +kernel
theorem dX12_isTooLong_10 : decode cX12_isTooLong 10 = .ok (.if_icmp .ge 50, 3) := by decide +kernel
theorem dX12_isTooLong_13 : decode cX12_isTooLong 13 = .ok (.aload_n 0, 1) := by decide +kernel
theorem dX12_isTooLong_14 : decode cX12_isTooLong 14 = .ok (.bipush 120, 2) := by decide +kernel
theorem dX12_isTooLong_16 : decode cX12_isTooLong 16 = .ok (.iload_n 3, 1) := by decide +kernel
theorem dX12_isTooLong_17 : decode cX12_isTooLong 17 = .ok (.invokevirtual 162, 3) := by decide +kernel
theorem dX12_isTooLong_20 : decode cX12_isTooLong 20 = .ok (.iload_n 1, 1) := by decide +kernel
theorem dX12_isTooLong_21 : decode cX12_isTooLong 21 = .ok (.invokestatic 172, 3) := by decide +kernel
theorem dX12_isTooLong_24 : decode cX12_isTooLong 24 = .ok (.ifCond .eq 30, 3) := by decide +kernel
theorem dX12_isTooLong_27 : decode cX12_isTooLong 27 = .ok (.aload_n 0, 1) := by decide +kernel
theorem dX12_isTooLong_28 : decode cX12_isTooLong 28 = .ok (.bipush 120, 2) := by decide +kernel
theorem dX12_isTooLong_30 : decode cX12_isTooLong 30 = .ok (.iload_n 3, 1) := by decide +kernel
theorem dX12_isTooLong_31 : decode cX12_isTooLong 31 = .ok (.invokevirtual 162, 3) := by decide +kernel
theorem dX12_isTooLong_34 : decode cX12_isTooLong 34 = .ok (.invokestatic 150, 3) := by decide +kernel
theorem dX12_isTooLong_37 : decode cX12_isTooLong 37 = .ok (.iload_n 1, 1) := by decide +kernel
theorem dX12_isTooLong_38 : decode cX12_isTooLong 38 = .ok (.invokestatic 150, 3) := by decide +kernel
theorem dX12_isTooLong_41 : decode cX12_isTooLong 41 = .ok (.isub, 1) := by decide +kernel
theorem dX12_isTooLong_42 : decode cX12_isTooLong 42 = .ok (.iload_n 2, 1) := by decide +kernel
theorem dX12_isTooLong_43 : decode cX12_isTooLong 43 = .ok (.invokestatic 150, 3) := by decide +kernel
theorem dX12_isTooLong_46 : decode cX12_isTooLong 46 = .ok (.iadd, 1) := by decide +kernel
theorem dX12_isTooLong_47 : decode cX12_isTooLong 47 = .ok (.bipush 6, 2) := by decide +kernel
theorem dX12_isTooLong_49 : decode cX12_isTooLong 49 = .ok (.if_icmp .le 5, 3) := by decide +kernel
theorem dX12_isTooLong_52 : decode cX12_isTooLong 52 = .ok (.iconst 1, 1) := by decide +kernel
theorem dX12_isTooLong_53 : decode cX12_isTooLong 53 = .ok (.ireturn, 1) := by decide +kernel
theorem dX12_isTooLong_54 : decode cX12_isTooLong 54 = .ok (.iinc 3 1, 3) := by decide +kernel
theorem dX12_isTooLong_57 : decode cX12_isTooLong 57 = .ok (.goto (-55), 3) := by decide +kernel
theorem dX12_isTooLong_60 : decode cX12_isTooLong 60 = .ok (.iconst 0, 1) := by decide +kernel
theorem dX12_isTooLong_61 : decode cX12_isTooLong 61 = .ok (.ireturn, 1) := by decide +kernel
noncomputable def st_isTooLong (M : gM) : Nat × List Int → Option ((Nat × List Int) ⊕ (Int))
  | (0, [x1, x2, x3]) => (if x3 < (M 718 120) then
      (Option.bind (F_pathAt M 120 x3) (fun r17 =>
        (Option.bind (F_isAtOrBelow r17 x1) (fun r21 =>
          (if r21 = 0 then
            some (.inl (0, [x1, x2, (gw32 (x3 + 1))]))
          else
            (Option.bind (F_pathAt M 120 x3) (fun r31 =>
              (Option.bind (F_names r31) (fun r34 =>
                (Option.bind (F_names x1) (fun r38 =>
                  (Option.bind (F_names x2) (fun r43 =>
                    (if (6 : Int) < (gw32 ((gw32 (r34 - r38)) + r43)) then
                      some (.inr 1)
                    else
                      some (.inl (0, [x1, x2, (gw32 (x3 + 1))]))))))))))))))))
    else
      some (.inr 0))
  | _ => none
theorem sk_isTooLong_2 (k : Nat × List Int → Option (Int)) (M : gM) (x1 x2 x3 : Int) : gWk k (st_isTooLong M (0, [x1, x2, x3])) = (if x3 < (M 718 120) then
    (Option.bind (F_pathAt M 120 x3) (fun r17 =>
      (Option.bind (F_isAtOrBelow r17 x1) (fun r21 =>
        (if r21 = 0 then
          k (0, [x1, x2, (gw32 (x3 + 1))])
        else
          (Option.bind (F_pathAt M 120 x3) (fun r31 =>
            (Option.bind (F_names r31) (fun r34 =>
              (Option.bind (F_names x1) (fun r38 =>
                (Option.bind (F_names x2) (fun r43 =>
                  (if (6 : Int) < (gw32 ((gw32 (r34 - r38)) + r43)) then
                    some 1
                  else
                    k (0, [x1, x2, (gw32 (x3 + 1))])))))))))))))))
  else
    some 0) := by
  simp only [st_isTooLong, gWk_ite, gWk_bind, gWk_inl, gWk_inr, gWk_none]
noncomputable def F_isTooLong_2 (M : gM) (x1 x2 x3 : Int) : Option (Int) := gWh (st_isTooLong M) (0, [x1, x2, x3])
theorem eq_isTooLong_2 (M : gM) (x1 x2 x3 : Int) : F_isTooLong_2 M x1 x2 x3 = (if x3 < (M 718 120) then
    (Option.bind (F_pathAt M 120 x3) (fun r17 =>
      (Option.bind (F_isAtOrBelow r17 x1) (fun r21 =>
        (if r21 = 0 then
          F_isTooLong_2 M x1 x2 (gw32 (x3 + 1))
        else
          (Option.bind (F_pathAt M 120 x3) (fun r31 =>
            (Option.bind (F_names r31) (fun r34 =>
              (Option.bind (F_names x1) (fun r38 =>
                (Option.bind (F_names x2) (fun r43 =>
                  (if (6 : Int) < (gw32 ((gw32 (r34 - r38)) + r43)) then
                    some 1
                  else
                    F_isTooLong_2 M x1 x2 (gw32 (x3 + 1))))))))))))))))
  else
    some 0) := (gWh_eq _).trans (sk_isTooLong_2 _ M x1 x2 x3)
noncomputable def F_isTooLong (M : gM) (a1 a2 : Int) : Option (Int) := F_isTooLong_2 M a1 a2 0
theorem eq_isTooLong (M : gM) (a1 a2 : Int) : F_isTooLong M a1 a2 = F_isTooLong_2 M a1 a2 0 := rfl
theorem bop_isTooLong {M : gM} : ∀ (s : Nat × List Int) (b : Int), gWh (st_isTooLong M) s = some b → (∀ (x1 x2 x3 : Int), s = (0, [x1, x2, x3]) → b = 0 ∨ b = 1) := by
  refine gWh_ind (fun k hk s b h => ?_)
  · rintro x1 x2 x3 rfl
    rw [sk_isTooLong_2] at h
    rcases gI_or h with h | h
    · obtain ⟨r17, e17, h⟩ := gI_bd h
      obtain ⟨r21, e21, h⟩ := gI_bd h
      rcases gI_or h with h | h
      · exact (hk _ _ h) _ _ _ rfl
      · obtain ⟨r31, e31, h⟩ := gI_bd h
        obtain ⟨r34, e34, h⟩ := gI_bd h
        obtain ⟨r38, e38, h⟩ := gI_bd h
        obtain ⟨r43, e43, h⟩ := gI_bd h
        rcases gI_or h with h | h
        · rw [← Option.some.inj h]
          exact (Or.inr rfl)
        · exact (hk _ _ h) _ _ _ rfl
    · rw [← Option.some.inj h]
      exact (Or.inl rfl)
theorem bo_isTooLong_2 {M : gM} {x1 x2 x3 : Int} {b : Int} (h : F_isTooLong_2 M x1 x2 x3 = some b) : b = 0 ∨ b = 1 :=
  (bop_isTooLong _ _ h) _ _ _ rfl
theorem bo_isTooLong {M : gM} {a1 a2 : Int} {b : Int} (h : F_isTooLong M a1 a2 = some b) : b = 0 ∨ b = 1 := by
  rw [eq_isTooLong] at h
  exact bo_isTooLong_2 h
theorem okp_isTooLong {sh : gS} {M : gM} : ∀ (s : Nat × List Int) (b : Int), gWh (st_isTooLong M) s = some b → (∀ (x1 x2 x3 : Int), s = (0, [x1, x2, x3]) → gOK sh M → gA (gr 3 64) yX12_isTooLong cX12_isTooLong 4 (some (.boolean)) (gPq sh (some (0, b)) M) (0, 0) 2 [(4, 711), (0, x1), (0, x2), (0, x3)] [] sh M) := by
  refine gWh_ind (fun k hk s b h => ?_)
  · rintro x1 x2 x3 rfl hOK
    rw [sk_isTooLong_2] at h
    refine g_iload_n (q0 := 3) (j := 3) rfl dX12_isTooLong_2 rfl ?_
    refine g_aload_n (q0 := 4) (j := 0) rfl dX12_isTooLong_3 rfl ?_
    refine g_getp (q0 := 7) (b := 718) rfl ff_X12_28 dX12_isTooLong_4 rfl hOK (by decide) (sh_711 hOK) rfl (by decide) ?_
    refine g_bipush (q0 := 9) rfl dX12_isTooLong_7 (k := ?_)
    refine g_iald (q0 := 10) rfl dX12_isTooLong_9 (sh_718 hOK) (by decide) (by decide) ?_
    refine g_icmp_ge (q0 := 13) (tgt := 60) rfl dX12_isTooLong_10 (by decide) (fun h10 => ?_) (fun h10 => ?_)
    · replace h := gI_neg (Int.not_lt.mpr h10) h
      refine g_iconst (q0 := 61) rfl dX12_isTooLong_60 (k := ?_)
      rw [← Option.some.inj h]
      refine g_zreturn dX12_isTooLong_61 rfl (gnz (Or.inl rfl)) ⟨Nat.zero_le _, Nat.zero_le _⟩ ?_
      exact ⟨rfl, rfl, rfl⟩
    · replace h := gI_pos h10 h
      refine g_aload_n (q0 := 14) (j := 0) rfl dX12_isTooLong_13 rfl ?_
      refine g_bipush (q0 := 16) rfl dX12_isTooLong_14 (k := ?_)
      refine g_iload_n (q0 := 17) (j := 3) rfl dX12_isTooLong_16 rfl ?_
      obtain ⟨r17, e17, h⟩ := gI_bd h
      refine g_callVq1 (as := [_, _]) (rest := []) mt_X12_pathAt mi_X12_pathAt se_X12_pathAt ml_X12_162 dX12_isTooLong_17 (q0 := 20) rfl rfl (sh_711 hOK) rfl rfl (ok_pathAt hOK e17) rfl ⟨by decide, by decide⟩ (Nat.le_of_ble_eq_true rfl) ⟨Nat.zero_le _, Nat.zero_le _⟩ ?_
      refine g_iload_n (q0 := 21) (j := 1) rfl dX12_isTooLong_20 rfl ?_
      obtain ⟨r21, e21, h⟩ := gI_bd h
      refine g_callSq1 (as := [_, _]) (rest := []) mt_X12_isAtOrBelow ms_X12_isAtOrBelow ml_X12_172 dX12_isTooLong_21 (q0 := 24) rfl rfl (ok_isAtOrBelow hOK e21) rfl ⟨by decide, by decide⟩ (Nat.le_of_ble_eq_true rfl) ⟨Nat.zero_le _, Nat.zero_le _⟩ ?_
      refine g_if_eq (q0 := 27) (tgt := 54) rfl dX12_isTooLong_24 (by decide) (fun h24 => ?_) (fun h24 => ?_)
      · replace h := gI_pos h24 h
        refine g_iincw (q0 := 57) (lv2 := [_, _, _, _]) rfl dX12_isTooLong_54 rfl (by decide) rfl rfl ?_
        refine g_goto (tgt := 2) dX12_isTooLong_57 (by decide) ?_
        exact (hk _ _ h) _ _ _ rfl hOK
      · replace h := gI_neg h24 h
        refine g_aload_n (q0 := 28) (j := 0) rfl dX12_isTooLong_27 rfl ?_
        refine g_bipush (q0 := 30) rfl dX12_isTooLong_28 (k := ?_)
        refine g_iload_n (q0 := 31) (j := 3) rfl dX12_isTooLong_30 rfl ?_
        obtain ⟨r31, e31, h⟩ := gI_bd h
        refine g_callVq1 (as := [_, _]) (rest := []) mt_X12_pathAt mi_X12_pathAt se_X12_pathAt ml_X12_162 dX12_isTooLong_31 (q0 := 34) rfl rfl (sh_711 hOK) rfl rfl (ok_pathAt hOK e31) rfl ⟨by decide, by decide⟩ (Nat.le_of_ble_eq_true rfl) ⟨Nat.zero_le _, Nat.zero_le _⟩ ?_
        obtain ⟨r34, e34, h⟩ := gI_bd h
        refine g_callSq1 (as := [_]) (rest := []) mt_X12_names ms_X12_names ml_X12_150 dX12_isTooLong_34 (q0 := 37) rfl rfl (ok_names hOK e34) rfl ⟨by decide, by decide⟩ (Nat.le_of_ble_eq_true rfl) ⟨Nat.zero_le _, Nat.zero_le _⟩ ?_
        refine g_iload_n (q0 := 38) (j := 1) rfl dX12_isTooLong_37 rfl ?_
        obtain ⟨r38, e38, h⟩ := gI_bd h
        refine g_callSq1 (as := [_]) (rest := [_]) mt_X12_names ms_X12_names ml_X12_150 dX12_isTooLong_38 (q0 := 41) rfl rfl (ok_names hOK e38) rfl ⟨by decide, by decide⟩ (Nat.le_of_ble_eq_true rfl) ⟨Nat.zero_le _, Nat.zero_le _⟩ ?_
        refine g_isubw (q0 := 42) rfl dX12_isTooLong_41 ?_
        refine g_iload_n (q0 := 43) (j := 2) rfl dX12_isTooLong_42 rfl ?_
        obtain ⟨r43, e43, h⟩ := gI_bd h
        refine g_callSq1 (as := [_]) (rest := [_]) mt_X12_names ms_X12_names ml_X12_150 dX12_isTooLong_43 (q0 := 46) rfl rfl (ok_names hOK e43) rfl ⟨by decide, by decide⟩ (Nat.le_of_ble_eq_true rfl) ⟨Nat.zero_le _, Nat.zero_le _⟩ ?_
        refine g_iaddw (q0 := 47) rfl dX12_isTooLong_46 ?_
        refine g_bipush (q0 := 49) rfl dX12_isTooLong_47 (k := ?_)
        refine g_icmp_le (q0 := 52) (tgt := 54) rfl dX12_isTooLong_49 (by decide) (fun h49 => ?_) (fun h49 => ?_)
        · replace h := gI_neg (Int.not_lt.mpr h49) h
          refine g_iincw (q0 := 57) (lv2 := [_, _, _, _]) rfl dX12_isTooLong_54 rfl (by decide) rfl rfl ?_
          refine g_goto (tgt := 2) dX12_isTooLong_57 (by decide) ?_
          exact (hk _ _ h) _ _ _ rfl hOK
        · replace h := gI_pos h49 h
          refine g_iconst (q0 := 53) rfl dX12_isTooLong_52 (k := ?_)
          rw [← Option.some.inj h]
          refine g_zreturn dX12_isTooLong_53 rfl (gnz (Or.inr rfl)) ⟨Nat.zero_le _, Nat.zero_le _⟩ ?_
          exact ⟨rfl, rfl, rfl⟩
theorem ok_isTooLong_2 {sh : gS} {M : gM} {x1 x2 x3 : Int} {b : Int} (hOK : gOK sh M) (h : F_isTooLong_2 M x1 x2 x3 = some b) : gA (gr 3 64) yX12_isTooLong cX12_isTooLong 4 (some (.boolean)) (gPq sh (some (0, b)) M) (0, 0) 2 [(4, 711), (0, x1), (0, x2), (0, x3)] [] sh M :=
  (okp_isTooLong _ _ h) _ _ _ rfl hOK
theorem ok_isTooLong {sh : gS} {M : gM} {a1 a2 : Int} {b : Int} (hOK : gOK sh M) (h : F_isTooLong M a1 a2 = some b) : gC (gr 3 64) yX12_isTooLong cX12_isTooLong 4 (some (.boolean)) [(4, 711), (0, a1), (0, a2)] sh M (gPq sh (some (0, b)) M) := by
  rw [eq_isTooLong] at h
  refine gC_ofA (lv := [_, _, _, _]) (by decide +kernel) (Nat.le_of_ble_eq_true rfl) rfl (fun hMw hav => ?_)
  refine g_iconst (q0 := 1) rfl dX12_isTooLong_0 (k := ?_)
  refine g_istore_n (q0 := 2) (j := 3) (lv2 := [_, _, _, _]) rfl dX12_isTooLong_1 (by decide) rfl rfl ?_
  exact ok_isTooLong_2 hOK h
-- ==== movesThere
theorem dX12_movesThere_0 : decode cX12_movesThere 0 = .ok (.aload_n 0, 1) := by decide +kernel
theorem dX12_movesThere_1 : decode cX12_movesThere 1 = .ok (.iconst 4, 1) := by decide +kernel
theorem dX12_movesThere_2 : decode cX12_movesThere 2 = .ok (.invokevirtual 294, 3) := by decide +kernel
theorem dX12_movesThere_5 : decode cX12_movesThere 5 = .ok (.ifCond .ne 5, 3) := by decide +kernel
theorem dX12_movesThere_8 : decode cX12_movesThere 8 = .ok (.iconst 0, 1) := by decide +kernel
theorem dX12_movesThere_9 : decode cX12_movesThere 9 = .ok (.ireturn, 1) := by decide +kernel
theorem dX12_movesThere_10 : decode cX12_movesThere 10 = .ok (.aload_n 0, 1) := by decide +kernel
theorem dX12_movesThere_11 : decode cX12_movesThere 11 = .ok (.getfield 278, 3) := by decide +kernel
theorem dX12_movesThere_14 : decode cX12_movesThere 14 = .ok (.istore_n 2, 1) := by decide +kernel
theorem dX12_movesThere_15 : decode cX12_movesThere 15 = .ok (.aload_n 0, 1) := by decide +kernel
theorem dX12_movesThere_16 : decode cX12_movesThere 16 = .ok (.bipush 62, 2) := by decide +kernel
theorem dX12_movesThere_18 : decode cX12_movesThere 18 = .ok (.invokevirtual 297, 3) := by decide +kernel
theorem dX12_movesThere_21 : decode cX12_movesThere 21 = .ok (.ifCond .eq 11, 3) := by decide +kernel
theorem dX12_movesThere_24 : decode cX12_movesThere 24 = .ok (.aload_n 0, 1) := by decide +kernel
theorem dX12_movesThere_25 : decode cX12_movesThere 25 = .ok (.iconst 4, 1) := by decide +kernel
theorem dX12_movesThere_26 : decode cX12_movesThere 26 = .ok (.invokevirtual 294, 3) := by decide +kernel
theorem dX12_movesThere_29 : decode cX12_movesThere 29 = .ok (.ifCond .ne 5, 3) := by decide +kernel
theorem dX12_movesThere_32 : decode cX12_movesThere 32 = .ok (.iconst 0, 1) := by decide +kernel
theorem dX12_movesThere_33 : decode cX12_movesThere 33 = .ok (.ireturn, 1) := by decide +kernel
theorem dX12_movesThere_34 : decode cX12_movesThere 34 = .ok (.aload_n 0, 1) := by decide +kernel
theorem dX12_movesThere_35 : decode cX12_movesThere 35 = .ok (.getfield 278, 3) := by decide +kernel
theorem dX12_movesThere_38 : decode cX12_movesThere 38 = .ok (.istore_n 3, 1) := by decide +kernel
theorem dX12_movesThere_39 : decode cX12_movesThere 39 = .ok (.aload_n 0, 1) := by decide +kernel
theorem dX12_movesThere_40 : decode cX12_movesThere 40 = .ok (.bipush 120, 2) := by decide +kernel
theorem dX12_movesThere_42 : decode cX12_movesThere 42 = .ok (.iload_n 2, 1) := by decide +kernel
theorem dX12_movesThere_43 : decode cX12_movesThere 43 = .ok (.invokevirtual 303, 3) := by decide +kernel
theorem dX12_movesThere_46 : decode cX12_movesThere 46 = .ok (.ifCond .ne 11, 3) := by decide +kernel
theorem dX12_movesThere_49 : decode cX12_movesThere 49 = .ok (.aload_n 0, 1) := by decide +kernel
theorem dX12_movesThere_50 : decode cX12_movesThere 50 = .ok (.bipush 8, 2) := by decide +kernel
theorem dX12_movesThere_52 : decode cX12_movesThere 52 = .ok (.iload_n 1, 1) := by decide +kernel
theorem dX12_movesThere_53 : decode cX12_movesThere 53 = .ok (.invokevirtual 269, 3) := by decide +kernel
theorem dX12_movesThere_56 : decode cX12_movesThere 56 = .ok (.ireturn, 1) := by decide +kernel
theorem dX12_movesThere_57 : decode cX12_movesThere 57 = .ok (.aload_n 0, 1) := by decide +kernel
theorem dX12_movesThere_58 : decode cX12_movesThere 58 = .ok (.bipush 120, 2) := by decide +kernel
theorem dX12_movesThere_60 : decode cX12_movesThere 60 = .ok (.iload_n 3, 1) := by decide +kernel
theorem dX12_movesThere_61 : decode cX12_movesThere 61 = .ok (.invokevirtual 303, 3) := by decide +kernel
theorem dX12_movesThere_64 : decode cX12_movesThere 64 = .ok (.ifCond .ne 21, 3) := by decide +kernel
theorem dX12_movesThere_67 : decode cX12_movesThere 67 = .ok (.iload_n 2, 1) := by decide +kernel
theorem dX12_movesThere_68 : decode cX12_movesThere 68 = .ok (.iload_n 3, 1) := by decide +kernel
theorem dX12_movesThere_69 : decode cX12_movesThere 69 = .ok (.invokestatic 154, 3) := by decide +kernel
theorem dX12_movesThere_72 : decode cX12_movesThere 72 = .ok (.ifCond .ne 13, 3) := by decide +kernel
theorem dX12_movesThere_75 : decode cX12_movesThere 75 = .ok (.aload_n 0, 1) := by decide +kernel
theorem dX12_movesThere_76 : decode cX12_movesThere 76 = .ok (.bipush 120, 2) := by decide +kernel
theorem dX12_movesThere_78 : decode cX12_movesThere 78 = .ok (.iload_n 3, 1) := by decide +kernel
theorem dX12_movesThere_79 : decode cX12_movesThere 79 = .ok (.invokevirtual 306, 3) := by decide +kernel
theorem dX12_movesThere_82 : decode cX12_movesThere 82 = .ok (.ifCond .eq 11, 3) := by decide +kernel
theorem dX12_movesThere_85 : decode cX12_movesThere 85 = .ok (.aload_n 0, 1) := by decide +kernel
theorem dX12_movesThere_86 : decode cX12_movesThere 86 = .ok (.bipush 7, 2) := by decide +kernel
theorem dX12_movesThere_88 : decode cX12_movesThere 88 = .ok (.iload_n 1, 1) := by decide +kernel
theorem dX12_movesThere_89 : decode cX12_movesThere 89 = .ok (.invokevirtual 269, 3) := by decide +kernel
theorem dX12_movesThere_92 : decode cX12_movesThere 92 = .ok (.ireturn, 1) := by decide +kernel
theorem dX12_movesThere_93 : decode cX12_movesThere 93 = .ok (.aload_n 0, 1) := by decide +kernel
theorem dX12_movesThere_94 : decode cX12_movesThere 94 = .ok (.iload_n 2, 1) := by decide +kernel
theorem dX12_movesThere_95 : decode cX12_movesThere 95 = .ok (.iload_n 3, 1) := by decide +kernel
theorem dX12_movesThere_96 : decode cX12_movesThere 96 = .ok (.invokevirtual 316, 3) := by decide +kernel
theorem dX12_movesThere_99 : decode cX12_movesThere 99 = .ok (.ifCond .eq 10, 3) := by decide +kernel
theorem dX12_movesThere_102 : decode cX12_movesThere 102 = .ok (.aload_n 0, 1) := by decide +kernel
theorem dX12_movesThere_103 : decode cX12_movesThere 103 = .ok (.iconst 5, 1) := by decide +kernel
theorem dX12_movesThere_104 : decode cX12_movesThere 104 = .ok (.iload_n 1, 1) := by decide +kernel
theorem dX12_movesThere_105 : decode cX12_movesThere 105 = .ok (.invokevirtual 269, 3) := by decide +kernel
theorem dX12_movesThere_108 : decode cX12_movesThere 108 = .ok (.ireturn, 1) := by decide +kernel
theorem dX12_movesThere_109 : decode cX12_movesThere 109 = .ok (.aload_n 0, 1) := by decide +kernel
theorem dX12_movesThere_110 : decode cX12_movesThere 110 = .ok (.bipush 120, 2) := by decide +kernel
theorem dX12_movesThere_112 : decode cX12_movesThere 112 = .ok (.bipush 122, 2) := by decide +kernel
theorem dX12_movesThere_114 : decode cX12_movesThere 114 = .ok (.invokevirtual 202, 3) := by decide +kernel
theorem dX12_movesThere_117 : decode cX12_movesThere 117 = .ok (.aload_n 0, 1) := by decide +kernel
theorem dX12_movesThere_118 : decode cX12_movesThere 118 = .ok (.bipush 120, 2) := by decide +kernel
theorem dX12_movesThere_120 : decode cX12_movesThere 120 = .ok (.iload_n 2, 1) := by decide +kernel
theorem dX12_movesThere_121 : decode cX12_movesThere 121 = .ok (.invokevirtual 313, 3) := by decide +kernel
theorem dX12_movesThere_124 : decode cX12_movesThere 124 = .ok (.iconst 0, 1) := by decide +kernel
theorem dX12_movesThere_125 : decode cX12_movesThere 125 = .ok (.istore 4, 2) := by decide +kernel
theorem dX12_movesThere_127 : decode cX12_movesThere 127 = .ok (.iload 4, 2) := by decide +kernel
theorem dX12_movesThere_129 : decode cX12_movesThere 129 = .ok (.aload_n 0, 1) := by decide +kernel
theorem dX12_movesThere_130 : decode cX12_movesThere 130 = .ok (.getfield 28, 3) := by decide +kernel
theorem dX12_movesThere_133 : decode cX12_movesThere 133 = .ok (.bipush 122, 2) := by decide +kernel
theorem dX12_movesThere_135 : decode cX12_movesThere 135 = .ok (.iaload, 1) := by decide +kernel
theorem dX12_movesThere_136 : decode cX12_movesThere 136 = .ok (.if_icmp .ge 51, 3) := by decide +kernel
theorem dX12_movesThere_139 : decode cX12_movesThere 139 = .ok (.aload_n 0, 1) := by decide +kernel
theorem dX12_movesThere_140 : decode cX12_movesThere 140 = .ok (.bipush 122, 2) := by decide +kernel
theorem dX12_movesThere_142 : decode cX12_movesThere 142 = .ok (.iload 4, 2) := by decide +kernel
theorem dX12_movesThere_144 : decode cX12_movesThere 144 = .ok (.invokevirtual 162, 3) := by decide +kernel
theorem dX12_movesThere_147 : decode cX12_movesThere 147 = .ok (.iload_n 2, 1) := by decide +kernel
theorem dX12_movesThere_148 : decode cX12_movesThere 148 = .ok (.invokestatic 172, 3) := by decide +kernel
theorem dX12_movesThere_151 : decode cX12_movesThere 151 = .ok (.ifCond .eq 30, 3) := by decide +kernel
theorem dX12_movesThere_154 : decode cX12_movesThere 154 = .ok (.aload_n 0, 1) := by decide +kernel
theorem dX12_movesThere_155 : decode cX12_movesThere 155 = .ok (.bipush 120, 2) := by decide +kernel
theorem dX12_movesThere_157 : decode cX12_movesThere 157 = .ok (.aload_n 0, 1) := by decide +kernel
theorem dX12_movesThere_158 : decode cX12_movesThere 158 = .ok (.bipush 122, 2) := by decide +kernel
theorem dX12_movesThere_160 : decode cX12_movesThere 160 = .ok (.iload 4, 2) := by decide +kernel
theorem dX12_movesThere_162 : decode cX12_movesThere 162 = .ok (.invokevirtual 162, 3) := by decide +kernel
theorem dX12_movesThere_165 : decode cX12_movesThere 165 = .ok (.iload_n 2, 1) := by decide +kernel
theorem dX12_movesThere_166 : decode cX12_movesThere 166 = .ok (.iload_n 3, 1) := by decide +kernel
theorem dX12_movesThere_167 : decode cX12_movesThere 167 = .ok (.invokestatic 319, 3) := by decide +kernel
theorem dX12_movesThere_170 : decode cX12_movesThere 170 = .ok (.aload_n 0, 1) := by decide +kernel
theorem dX12_movesThere_171 : decode cX12_movesThere 171 = .ok (.bipush 122, 2) := by decide +kernel
theorem dX12_movesThere_173 : decode cX12_movesThere 173 = .ok (.iload 4, 2) := by decide +kernel
theorem dX12_movesThere_175 : decode cX12_movesThere 175 = .ok (.invokevirtual 169, 3) := by decide +kernel
theorem dX12_movesThere_178 : decode cX12_movesThere 178 = .ok (.invokevirtual 309, 3) := by decide +kernel
theorem dX12_movesThere_181 : decode cX12_movesThere 181 = .ok (.iinc 4 1, 3) := by decide +kernel
theorem dX12_movesThere_184 : decode cX12_movesThere 184 = .ok (.goto (-57), 3) := by decide +kernel
theorem dX12_movesThere_187 : decode cX12_movesThere 187 = .ok (.iconst 1, 1) := by decide +kernel
theorem dX12_movesThere_188 : decode cX12_movesThere 188 = .ok (.ireturn, 1) := by decide +kernel
noncomputable def st_movesThere : Nat × List Int × gM → Option ((Nat × List Int × gM) ⊕ (Int × gM))
  | (0, [x1, x2, x3, x4], M) => (if x4 < (M 718 122) then
      (Option.bind (F_pathAt M 122 x4) (fun r144 =>
        (Option.bind (F_isAtOrBelow r144 x2) (fun r148 =>
          (if r148 = 0 then
            some (.inl (0, [x1, x2, x3, (gw32 (x4 + 1))], M))
          else
            (Option.bind (F_pathAt M 122 x4) (fun r162 =>
              (Option.bind (F_moved r162 x2 x3) (fun r167 =>
                (Option.bind (F_contentAt M 122 x4) (fun r175 =>
                  (Option.bind (F_puts M 120 r167 r175) (fun m178 =>
                    some (.inl (0, [x1, x2, x3, (gw32 (x4 + 1))], m178)))))))))))))))
    else
      some (.inr (1, M)))
  | _ => none
theorem sk_movesThere_127 (k : Nat × List Int × gM → Option (Int × gM)) (M : gM) (x1 x2 x3 x4 : Int) : gWk k (st_movesThere (0, [x1, x2, x3, x4], M)) = (if x4 < (M 718 122) then
    (Option.bind (F_pathAt M 122 x4) (fun r144 =>
      (Option.bind (F_isAtOrBelow r144 x2) (fun r148 =>
        (if r148 = 0 then
          k (0, [x1, x2, x3, (gw32 (x4 + 1))], M)
        else
          (Option.bind (F_pathAt M 122 x4) (fun r162 =>
            (Option.bind (F_moved r162 x2 x3) (fun r167 =>
              (Option.bind (F_contentAt M 122 x4) (fun r175 =>
                (Option.bind (F_puts M 120 r167 r175) (fun m178 =>
                  k (0, [x1, x2, x3, (gw32 (x4 + 1))], m178))))))))))))))
  else
    some (1, M)) := by
  simp only [st_movesThere, gWk_ite, gWk_bind, gWk_inl, gWk_inr, gWk_none]
noncomputable def F_movesThere_127 (M : gM) (x1 x2 x3 x4 : Int) : Option (Int × gM) := gWh (st_movesThere) (0, [x1, x2, x3, x4], M)
theorem eq_movesThere_127 (M : gM) (x1 x2 x3 x4 : Int) : F_movesThere_127 M x1 x2 x3 x4 = (if x4 < (M 718 122) then
    (Option.bind (F_pathAt M 122 x4) (fun r144 =>
      (Option.bind (F_isAtOrBelow r144 x2) (fun r148 =>
        (if r148 = 0 then
          F_movesThere_127 M x1 x2 x3 (gw32 (x4 + 1))
        else
          (Option.bind (F_pathAt M 122 x4) (fun r162 =>
            (Option.bind (F_moved r162 x2 x3) (fun r167 =>
              (Option.bind (F_contentAt M 122 x4) (fun r175 =>
                (Option.bind (F_puts M 120 r167 r175) (fun m178 =>
                  F_movesThere_127 m178 x1 x2 x3 (gw32 (x4 + 1)))))))))))))))
  else
    some (1, M)) := (gWh_eq _).trans (sk_movesThere_127 _ M x1 x2 x3 x4)
noncomputable def F_movesThere (M : gM) (a1 : Int) : Option (Int × gM) := (Option.bind (F_readsPath M 4) (fun p2 =>
    (if p2.1 = 0 then
      some (0, p2.2)
    else
      (Option.bind (F_takesSign p2.2 62) (fun p18 =>
        (if p18.1 = 0 then
          some (0, p18.2)
        else
          (Option.bind (F_readsPath p18.2 4) (fun p26 =>
            (if p26.1 = 0 then
              some (0, p26.2)
            else
              (Option.bind (F_kindAt p26.2 120 (p2.2 711 23)) (fun r43 =>
                (if r43 = 0 then
                  (Option.bind (F_wrongAt p26.2 8 a1) (fun p53 =>
                    some (p53.1, p53.2)))
                else
                  (Option.bind (F_kindAt p26.2 120 (p26.2 711 23)) (fun r61 =>
                    (if r61 = 0 then
                      (Option.bind (F_begins (p2.2 711 23) (p26.2 711 23)) (fun r69 =>
                        (if r69 = 0 then
                          (Option.bind (F_isBarred p26.2 120 (p26.2 711 23)) (fun r79 =>
                            (if r79 = 0 then
                              (Option.bind (F_isTooLong p26.2 (p2.2 711 23) (p26.2 711 23)) (fun r96 =>
                                (if r96 = 0 then
                                  (Option.bind (F_copyTree p26.2 120 122) (fun m114 =>
                                    (Option.bind (F_takes m114 120 (p2.2 711 23)) (fun m121 =>
                                      F_movesThere_127 m121 a1 (p2.2 711 23) (p26.2 711 23) 0))))
                                else
                                  (Option.bind (F_wrongAt p26.2 5 a1) (fun p105 =>
                                    some (p105.1, p105.2))))))
                            else
                              (Option.bind (F_wrongAt p26.2 7 a1) (fun p89 =>
                                some (p89.1, p89.2))))))
                        else
                          (Option.bind (F_wrongAt p26.2 7 a1) (fun p89 =>
                            some (p89.1, p89.2))))))
                    else
                      (Option.bind (F_wrongAt p26.2 7 a1) (fun p89 =>
                        some (p89.1, p89.2))))))))))))))))))
theorem eq_movesThere (M : gM) (a1 : Int) : F_movesThere M a1 = (Option.bind (F_readsPath M 4) (fun p2 =>
    (if p2.1 = 0 then
      some (0, p2.2)
    else
      (Option.bind (F_takesSign p2.2 62) (fun p18 =>
        (if p18.1 = 0 then
          some (0, p18.2)
        else
          (Option.bind (F_readsPath p18.2 4) (fun p26 =>
            (if p26.1 = 0 then
              some (0, p26.2)
            else
              (Option.bind (F_kindAt p26.2 120 (p2.2 711 23)) (fun r43 =>
                (if r43 = 0 then
                  (Option.bind (F_wrongAt p26.2 8 a1) (fun p53 =>
                    some (p53.1, p53.2)))
                else
                  (Option.bind (F_kindAt p26.2 120 (p26.2 711 23)) (fun r61 =>
                    (if r61 = 0 then
                      (Option.bind (F_begins (p2.2 711 23) (p26.2 711 23)) (fun r69 =>
                        (if r69 = 0 then
                          (Option.bind (F_isBarred p26.2 120 (p26.2 711 23)) (fun r79 =>
                            (if r79 = 0 then
                              (Option.bind (F_isTooLong p26.2 (p2.2 711 23) (p26.2 711 23)) (fun r96 =>
                                (if r96 = 0 then
                                  (Option.bind (F_copyTree p26.2 120 122) (fun m114 =>
                                    (Option.bind (F_takes m114 120 (p2.2 711 23)) (fun m121 =>
                                      F_movesThere_127 m121 a1 (p2.2 711 23) (p26.2 711 23) 0))))
                                else
                                  (Option.bind (F_wrongAt p26.2 5 a1) (fun p105 =>
                                    some (p105.1, p105.2))))))
                            else
                              (Option.bind (F_wrongAt p26.2 7 a1) (fun p89 =>
                                some (p89.1, p89.2))))))
                        else
                          (Option.bind (F_wrongAt p26.2 7 a1) (fun p89 =>
                            some (p89.1, p89.2))))))
                    else
                      (Option.bind (F_wrongAt p26.2 7 a1) (fun p89 =>
                        some (p89.1, p89.2)))))))))))))))))) := rfl
theorem frp_movesThere : ∀ (s : Nat × List Int × gM) (b : Int × gM), gWh (st_movesThere) s = some b → (∀ (x1 x2 x3 x4 : Int) (M : gM), s = (0, [x1, x2, x3, x4], M) → gFr [718, 719, 720] [19, 21, 23] M b.2) := by
  refine gWh_ind (fun k hk s b h => ?_)
  · rintro x1 x2 x3 x4 M rfl
    rw [sk_movesThere_127] at h
    rcases gI_or h with h | h
    · obtain ⟨r144, e144, h⟩ := gI_bd h
      obtain ⟨r148, e148, h⟩ := gI_bd h
      rcases gI_or h with h | h
      · exact gFr_t (gFr_r [718, 719, 720] [19, 21, 23] _) ((hk _ _ h) _ _ _ _ _ rfl) (fun _ z => z) (fun _ z => z)
      · obtain ⟨r162, e162, h⟩ := gI_bd h
        obtain ⟨r167, e167, h⟩ := gI_bd h
        obtain ⟨r175, e175, h⟩ := gI_bd h
        obtain ⟨m178, e178, h⟩ := gI_bd h
        exact gFr_t (gFr_t (gFr_r [718, 719, 720] [19, 21, 23] _) (fr_puts (b := m178) e178) (by first | decide | simp) (by decide)) ((hk _ _ h) _ _ _ _ _ rfl) (fun _ z => z) (fun _ z => z)
    · rw [← Option.some.inj h]
      exact (gFr_r [718, 719, 720] [19, 21, 23] _)
theorem fr_movesThere_127 {M : gM} {x1 x2 x3 x4 : Int} {b : Int × gM} (h : F_movesThere_127 M x1 x2 x3 x4 = some b) : gFr [718, 719, 720] [19, 21, 23] M b.2 :=
  (frp_movesThere _ _ h) _ _ _ _ _ rfl
theorem fr_movesThere {M : gM} {a1 : Int} {b : Int × gM} (h : F_movesThere M a1 = some b) : gFr [718, 719, 720] [19, 21, 23] M b.2 := by
  rw [eq_movesThere] at h
  obtain ⟨p2, e2, h⟩ := gI_bd h
  rcases gI_or h with h | h
  · rw [← Option.some.inj h]
    exact (gFr_t (gFr_r [718, 719, 720] [19, 21, 23] _) (fr_readsPath (b := p2) e2) (by first | decide | simp) (by decide))
  · obtain ⟨p18, e18, h⟩ := gI_bd h
    rcases gI_or h with h | h
    · rw [← Option.some.inj h]
      exact (gFr_t (gFr_t (gFr_r [718, 719, 720] [19, 21, 23] _) (fr_readsPath (b := p2) e2) (by first | decide | simp) (by decide)) (fr_takesSign (b := p18) e18) (by first | decide | simp) (by decide))
    · obtain ⟨p26, e26, h⟩ := gI_bd h
      rcases gI_or h with h | h
      · rw [← Option.some.inj h]
        exact (gFr_t (gFr_t (gFr_t (gFr_r [718, 719, 720] [19, 21, 23] _) (fr_readsPath (b := p2) e2) (by first | decide | simp) (by decide)) (fr_takesSign (b := p18) e18) (by first | decide | simp) (by decide)) (fr_readsPath (b := p26) e26) (by first | decide | simp) (by decide))
      · obtain ⟨r43, e43, h⟩ := gI_bd h
        rcases gI_or h with h | h
        · obtain ⟨p53, e53, h⟩ := gI_bd h
          rw [← Option.some.inj h]
          exact (gFr_t (gFr_t (gFr_t (gFr_t (gFr_r [718, 719, 720] [19, 21, 23] _) (fr_readsPath (b := p2) e2) (by first | decide | simp) (by decide)) (fr_takesSign (b := p18) e18) (by first | decide | simp) (by decide)) (fr_readsPath (b := p26) e26) (by first | decide | simp) (by decide)) (fr_wrongAt (b := p53) e53) (by first | decide | simp) (by decide))
        · obtain ⟨r61, e61, h⟩ := gI_bd h
          rcases gI_or h with h | h
          · obtain ⟨r69, e69, h⟩ := gI_bd h
            rcases gI_or h with h | h
            · obtain ⟨r79, e79, h⟩ := gI_bd h
              rcases gI_or h with h | h
              · obtain ⟨r96, e96, h⟩ := gI_bd h
                rcases gI_or h with h | h
                · obtain ⟨m114, e114, h⟩ := gI_bd h
                  obtain ⟨m121, e121, h⟩ := gI_bd h
                  exact gFr_t (gFr_t (gFr_t (gFr_t (gFr_t (gFr_t (gFr_r [718, 719, 720] [19, 21, 23] _) (fr_readsPath (b := p2) e2) (by first | decide | simp) (by decide)) (fr_takesSign (b := p18) e18) (by first | decide | simp) (by decide)) (fr_readsPath (b := p26) e26) (by first | decide | simp) (by decide)) (fr_copyTree (b := m114) e114) (by first | decide | simp) (by decide)) (fr_takes (b := m121) e121) (by first | decide | simp) (by decide)) (fr_movesThere_127 h) (fun _ z => z) (fun _ z => z)
                · obtain ⟨p105, e105, h⟩ := gI_bd h
                  rw [← Option.some.inj h]
                  exact (gFr_t (gFr_t (gFr_t (gFr_t (gFr_r [718, 719, 720] [19, 21, 23] _) (fr_readsPath (b := p2) e2) (by first | decide | simp) (by decide)) (fr_takesSign (b := p18) e18) (by first | decide | simp) (by decide)) (fr_readsPath (b := p26) e26) (by first | decide | simp) (by decide)) (fr_wrongAt (b := p105) e105) (by first | decide | simp) (by decide))
              · obtain ⟨p89, e89, h⟩ := gI_bd h
                rw [← Option.some.inj h]
                exact (gFr_t (gFr_t (gFr_t (gFr_t (gFr_r [718, 719, 720] [19, 21, 23] _) (fr_readsPath (b := p2) e2) (by first | decide | simp) (by decide)) (fr_takesSign (b := p18) e18) (by first | decide | simp) (by decide)) (fr_readsPath (b := p26) e26) (by first | decide | simp) (by decide)) (fr_wrongAt (b := p89) e89) (by first | decide | simp) (by decide))
            · obtain ⟨p89, e89, h⟩ := gI_bd h
              rw [← Option.some.inj h]
              exact (gFr_t (gFr_t (gFr_t (gFr_t (gFr_r [718, 719, 720] [19, 21, 23] _) (fr_readsPath (b := p2) e2) (by first | decide | simp) (by decide)) (fr_takesSign (b := p18) e18) (by first | decide | simp) (by decide)) (fr_readsPath (b := p26) e26) (by first | decide | simp) (by decide)) (fr_wrongAt (b := p89) e89) (by first | decide | simp) (by decide))
          · obtain ⟨p89, e89, h⟩ := gI_bd h
            rw [← Option.some.inj h]
            exact (gFr_t (gFr_t (gFr_t (gFr_t (gFr_r [718, 719, 720] [19, 21, 23] _) (fr_readsPath (b := p2) e2) (by first | decide | simp) (by decide)) (fr_takesSign (b := p18) e18) (by first | decide | simp) (by decide)) (fr_readsPath (b := p26) e26) (by first | decide | simp) (by decide)) (fr_wrongAt (b := p89) e89) (by first | decide | simp) (by decide))
theorem bop_movesThere : ∀ (s : Nat × List Int × gM) (b : Int × gM), gWh (st_movesThere) s = some b → (∀ (x1 x2 x3 x4 : Int) (M : gM), s = (0, [x1, x2, x3, x4], M) → b.1 = 0 ∨ b.1 = 1) := by
  refine gWh_ind (fun k hk s b h => ?_)
  · rintro x1 x2 x3 x4 M rfl
    rw [sk_movesThere_127] at h
    rcases gI_or h with h | h
    · obtain ⟨r144, e144, h⟩ := gI_bd h
      obtain ⟨r148, e148, h⟩ := gI_bd h
      rcases gI_or h with h | h
      · exact (hk _ _ h) _ _ _ _ _ rfl
      · obtain ⟨r162, e162, h⟩ := gI_bd h
        obtain ⟨r167, e167, h⟩ := gI_bd h
        obtain ⟨r175, e175, h⟩ := gI_bd h
        obtain ⟨m178, e178, h⟩ := gI_bd h
        exact (hk _ _ h) _ _ _ _ _ rfl
    · rw [← Option.some.inj h]
      exact (Or.inr rfl)
theorem bo_movesThere_127 {M : gM} {x1 x2 x3 x4 : Int} {b : Int × gM} (h : F_movesThere_127 M x1 x2 x3 x4 = some b) : b.1 = 0 ∨ b.1 = 1 :=
  (bop_movesThere _ _ h) _ _ _ _ _ rfl
theorem bo_movesThere {M : gM} {a1 : Int} {b : Int × gM} (h : F_movesThere M a1 = some b) : b.1 = 0 ∨ b.1 = 1 := by
  rw [eq_movesThere] at h
  obtain ⟨p2, e2, h⟩ := gI_bd h
  rcases gI_or h with h | h
  · rw [← Option.some.inj h]
    exact (Or.inl rfl)
  · obtain ⟨p18, e18, h⟩ := gI_bd h
    rcases gI_or h with h | h
    · rw [← Option.some.inj h]
      exact (Or.inl rfl)
    · obtain ⟨p26, e26, h⟩ := gI_bd h
      rcases gI_or h with h | h
      · rw [← Option.some.inj h]
        exact (Or.inl rfl)
      · obtain ⟨r43, e43, h⟩ := gI_bd h
        rcases gI_or h with h | h
        · obtain ⟨p53, e53, h⟩ := gI_bd h
          rw [← Option.some.inj h]
          exact (bo_wrongAt (b := p53) e53)
        · obtain ⟨r61, e61, h⟩ := gI_bd h
          rcases gI_or h with h | h
          · obtain ⟨r69, e69, h⟩ := gI_bd h
            rcases gI_or h with h | h
            · obtain ⟨r79, e79, h⟩ := gI_bd h
              rcases gI_or h with h | h
              · obtain ⟨r96, e96, h⟩ := gI_bd h
                rcases gI_or h with h | h
                · obtain ⟨m114, e114, h⟩ := gI_bd h
                  obtain ⟨m121, e121, h⟩ := gI_bd h
                  exact bo_movesThere_127 h
                · obtain ⟨p105, e105, h⟩ := gI_bd h
                  rw [← Option.some.inj h]
                  exact (bo_wrongAt (b := p105) e105)
              · obtain ⟨p89, e89, h⟩ := gI_bd h
                rw [← Option.some.inj h]
                exact (bo_wrongAt (b := p89) e89)
            · obtain ⟨p89, e89, h⟩ := gI_bd h
              rw [← Option.some.inj h]
              exact (bo_wrongAt (b := p89) e89)
          · obtain ⟨p89, e89, h⟩ := gI_bd h
            rw [← Option.some.inj h]
            exact (bo_wrongAt (b := p89) e89)
theorem okp_movesThere {sh : gS} : ∀ (s : Nat × List Int × gM) (b : Int × gM), gWh (st_movesThere) s = some b → (∀ (x1 x2 x3 x4 : Int) (M : gM), s = (0, [x1, x2, x3, x4], M) → gOK sh M → gA (gr 5 110) yX12_movesThere cX12_movesThere 5 (some (.boolean)) (gPq sh (some (0, b.1)) b.2) (0, 0) 127 [(4, 711), (0, x1), (0, x2), (0, x3), (0, x4)] [] sh M) := by
  refine gWh_ind (fun k hk s b h => ?_)
  · rintro x1 x2 x3 x4 M rfl hOK
    rw [sk_movesThere_127] at h
    refine g_iload (q0 := 129) (j := 4) rfl dX12_movesThere_127 rfl ?_
    refine g_aload_n (q0 := 130) (j := 0) rfl dX12_movesThere_129 rfl ?_
    refine g_getp (q0 := 133) (b := 718) rfl ff_X12_28 dX12_movesThere_130 rfl hOK (by decide) (sh_711 hOK) rfl (by decide) ?_
    refine g_bipush (q0 := 135) rfl dX12_movesThere_133 (k := ?_)
    refine g_iald (q0 := 136) rfl dX12_movesThere_135 (sh_718 hOK) (by decide) (by decide) ?_
    refine g_icmp_ge (q0 := 139) (tgt := 187) rfl dX12_movesThere_136 (by decide) (fun h136 => ?_) (fun h136 => ?_)
    · replace h := gI_neg (Int.not_lt.mpr h136) h
      refine g_iconst (q0 := 188) rfl dX12_movesThere_187 (k := ?_)
      rw [← Option.some.inj h]
      refine g_zreturn dX12_movesThere_188 rfl (gnz (Or.inr rfl)) ⟨Nat.zero_le _, Nat.zero_le _⟩ ?_
      exact ⟨rfl, rfl, rfl⟩
    · replace h := gI_pos h136 h
      refine g_aload_n (q0 := 140) (j := 0) rfl dX12_movesThere_139 rfl ?_
      refine g_bipush (q0 := 142) rfl dX12_movesThere_140 (k := ?_)
      refine g_iload (q0 := 144) (j := 4) rfl dX12_movesThere_142 rfl ?_
      obtain ⟨r144, e144, h⟩ := gI_bd h
      refine g_callVq1 (as := [_, _]) (rest := []) mt_X12_pathAt mi_X12_pathAt se_X12_pathAt ml_X12_162 dX12_movesThere_144 (q0 := 147) rfl rfl (sh_711 hOK) rfl rfl (ok_pathAt hOK e144) rfl ⟨by decide, by decide⟩ (Nat.le_of_ble_eq_true rfl) ⟨Nat.zero_le _, Nat.zero_le _⟩ ?_
      refine g_iload_n (q0 := 148) (j := 2) rfl dX12_movesThere_147 rfl ?_
      obtain ⟨r148, e148, h⟩ := gI_bd h
      refine g_callSq1 (as := [_, _]) (rest := []) mt_X12_isAtOrBelow ms_X12_isAtOrBelow ml_X12_172 dX12_movesThere_148 (q0 := 151) rfl rfl (ok_isAtOrBelow hOK e148) rfl ⟨by decide, by decide⟩ (Nat.le_of_ble_eq_true rfl) ⟨Nat.zero_le _, Nat.zero_le _⟩ ?_
      refine g_if_eq (q0 := 154) (tgt := 181) rfl dX12_movesThere_151 (by decide) (fun h151 => ?_) (fun h151 => ?_)
      · replace h := gI_pos h151 h
        refine g_iincw (q0 := 184) (lv2 := [_, _, _, _, _]) rfl dX12_movesThere_181 rfl (by decide) rfl rfl ?_
        refine g_goto (tgt := 127) dX12_movesThere_184 (by decide) ?_
        exact (hk _ _ h) _ _ _ _ _ rfl hOK
      · replace h := gI_neg h151 h
        refine g_aload_n (q0 := 155) (j := 0) rfl dX12_movesThere_154 rfl ?_
        refine g_bipush (q0 := 157) rfl dX12_movesThere_155 (k := ?_)
        refine g_aload_n (q0 := 158) (j := 0) rfl dX12_movesThere_157 rfl ?_
        refine g_bipush (q0 := 160) rfl dX12_movesThere_158 (k := ?_)
        refine g_iload (q0 := 162) (j := 4) rfl dX12_movesThere_160 rfl ?_
        obtain ⟨r162, e162, h⟩ := gI_bd h
        refine g_callVq1 (as := [_, _]) (rest := [_, _]) mt_X12_pathAt mi_X12_pathAt se_X12_pathAt ml_X12_162 dX12_movesThere_162 (q0 := 165) rfl rfl (sh_711 hOK) rfl rfl (ok_pathAt hOK e162) rfl ⟨by decide, by decide⟩ (Nat.le_of_ble_eq_true rfl) ⟨Nat.zero_le _, Nat.zero_le _⟩ ?_
        refine g_iload_n (q0 := 166) (j := 2) rfl dX12_movesThere_165 rfl ?_
        refine g_iload_n (q0 := 167) (j := 3) rfl dX12_movesThere_166 rfl ?_
        obtain ⟨r167, e167, h⟩ := gI_bd h
        refine g_callSq1 (as := [_, _, _]) (rest := [_, _]) mt_X12_moved ms_X12_moved ml_X12_319 dX12_movesThere_167 (q0 := 170) rfl rfl (ok_moved hOK e167) rfl ⟨by decide, by decide⟩ (Nat.le_of_ble_eq_true rfl) ⟨Nat.zero_le _, Nat.zero_le _⟩ ?_
        refine g_aload_n (q0 := 171) (j := 0) rfl dX12_movesThere_170 rfl ?_
        refine g_bipush (q0 := 173) rfl dX12_movesThere_171 (k := ?_)
        refine g_iload (q0 := 175) (j := 4) rfl dX12_movesThere_173 rfl ?_
        obtain ⟨r175, e175, h⟩ := gI_bd h
        refine g_callVq1 (as := [_, _]) (rest := [_, _, _]) mt_X12_contentAt mi_X12_contentAt se_X12_contentAt ml_X12_169 dX12_movesThere_175 (q0 := 178) rfl rfl (sh_711 hOK) rfl rfl (ok_contentAt hOK e175) rfl ⟨by decide, by decide⟩ (Nat.le_of_ble_eq_true rfl) ⟨Nat.zero_le _, Nat.zero_le _⟩ ?_
        obtain ⟨m178, e178, h⟩ := gI_bd h
        refine g_callVq0 (as := [_, _, _]) (rest := []) mt_X12_puts mi_X12_puts se_X12_puts ml_X12_309 dX12_movesThere_178 (q0 := 181) rfl rfl (sh_711 hOK) rfl rfl (ok_puts hOK e178) rfl ⟨by decide, by decide⟩ (Nat.le_of_ble_eq_true rfl) ⟨Nat.zero_le _, Nat.zero_le _⟩ ?_
        have hOK1 : gOK sh m178 := gOK_fr hOK (fr_puts (b := m178) e178) (by first | decide | (intro a ha; simp only [List.mem_cons, List.not_mem_nil, or_false] at ha; omega)) (by decide)
        refine g_iincw (q0 := 184) (lv2 := [_, _, _, _, _]) rfl dX12_movesThere_181 rfl (by decide) rfl rfl ?_
        refine g_goto (tgt := 127) dX12_movesThere_184 (by decide) ?_
        exact (hk _ _ h) _ _ _ _ _ rfl hOK1
theorem ok_movesThere_127 {sh : gS} {M : gM} {x1 x2 x3 x4 : Int} {b : Int × gM} (hOK : gOK sh M) (h : F_movesThere_127 M x1 x2 x3 x4 = some b) : gA (gr 5 110) yX12_movesThere cX12_movesThere 5 (some (.boolean)) (gPq sh (some (0, b.1)) b.2) (0, 0) 127 [(4, 711), (0, x1), (0, x2), (0, x3), (0, x4)] [] sh M :=
  (okp_movesThere _ _ h) _ _ _ _ _ rfl hOK
theorem ok_movesThere {sh : gS} {M : gM} {a1 : Int} {b : Int × gM} (hOK : gOK sh M) (h : F_movesThere M a1 = some b) : gC (gr 5 110) yX12_movesThere cX12_movesThere 5 (some (.boolean)) [(4, 711), (0, a1)] sh M (gPq sh (some (0, b.1)) b.2) := by
  rw [eq_movesThere] at h
  refine gC_ofA (lv := [_, _, _, _, _]) (by decide +kernel) (Nat.le_of_ble_eq_true rfl) rfl (fun hMw hav => ?_)
  refine g_aload_n (q0 := 1) (j := 0) rfl dX12_movesThere_0 rfl ?_
  refine g_iconst (q0 := 2) rfl dX12_movesThere_1 (k := ?_)
  obtain ⟨p2, e2, h⟩ := gI_bd h
  refine g_callVq1 (as := [_]) (rest := []) mt_X12_readsPath mi_X12_readsPath se_X12_readsPath ml_X12_294 dX12_movesThere_2 (q0 := 5) rfl rfl (sh_711 hOK) rfl rfl (ok_readsPath hOK e2) rfl ⟨by decide, by decide⟩ (Nat.le_of_ble_eq_true rfl) ⟨Nat.zero_le _, Nat.zero_le _⟩ ?_
  have hOK2 : gOK sh p2.2 := gOK_fr hOK (fr_readsPath (b := p2) e2) (by first | decide | (intro a ha; simp only [List.mem_cons, List.not_mem_nil, or_false] at ha; omega)) (by decide)
  refine g_if_ne (q0 := 8) (tgt := 10) rfl dX12_movesThere_5 (by decide) (fun h5 => ?_) (fun h5 => ?_)
  · replace h := gI_neg h5 h
    refine g_aload_n (q0 := 11) (j := 0) rfl dX12_movesThere_10 rfl ?_
    refine g_getf (q0 := 14) (t := 0) (fi := 23) rfl rfl ff_X12_278 dX12_movesThere_11 rfl (sh_711 hOK2) ?_
    refine g_istore_n (q0 := 15) (j := 2) (lv2 := [_, _, _, _, _]) rfl dX12_movesThere_14 (by decide) rfl rfl ?_
    refine g_aload_n (q0 := 16) (j := 0) rfl dX12_movesThere_15 rfl ?_
    refine g_bipush (q0 := 18) rfl dX12_movesThere_16 (k := ?_)
    obtain ⟨p18, e18, h⟩ := gI_bd h
    refine g_callVq1 (as := [_]) (rest := []) mt_X12_takesSign mi_X12_takesSign se_X12_takesSign ml_X12_297 dX12_movesThere_18 (q0 := 21) rfl rfl (sh_711 hOK2) rfl rfl (ok_takesSign hOK2 e18) rfl ⟨by decide, by decide⟩ (Nat.le_of_ble_eq_true rfl) ⟨Nat.zero_le _, Nat.zero_le _⟩ ?_
    have hOK3 : gOK sh p18.2 := gOK_fr hOK2 (fr_takesSign (b := p18) e18) (by first | decide | (intro a ha; simp only [List.mem_cons, List.not_mem_nil, or_false] at ha; omega)) (by decide)
    refine g_if_eq (q0 := 24) (tgt := 32) rfl dX12_movesThere_21 (by decide) (fun h21 => ?_) (fun h21 => ?_)
    · replace h := gI_pos h21 h
      refine g_iconst (q0 := 33) rfl dX12_movesThere_32 (k := ?_)
      rw [← Option.some.inj h]
      refine g_zreturn dX12_movesThere_33 rfl (gnz (Or.inl rfl)) ⟨Nat.zero_le _, Nat.zero_le _⟩ ?_
      exact ⟨rfl, rfl, rfl⟩
    · replace h := gI_neg h21 h
      refine g_aload_n (q0 := 25) (j := 0) rfl dX12_movesThere_24 rfl ?_
      refine g_iconst (q0 := 26) rfl dX12_movesThere_25 (k := ?_)
      obtain ⟨p26, e26, h⟩ := gI_bd h
      refine g_callVq1 (as := [_]) (rest := []) mt_X12_readsPath mi_X12_readsPath se_X12_readsPath ml_X12_294 dX12_movesThere_26 (q0 := 29) rfl rfl (sh_711 hOK3) rfl rfl (ok_readsPath hOK3 e26) rfl ⟨by decide, by decide⟩ (Nat.le_of_ble_eq_true rfl) ⟨Nat.zero_le _, Nat.zero_le _⟩ ?_
      have hOK4 : gOK sh p26.2 := gOK_fr hOK3 (fr_readsPath (b := p26) e26) (by first | decide | (intro a ha; simp only [List.mem_cons, List.not_mem_nil, or_false] at ha; omega)) (by decide)
      refine g_if_ne (q0 := 32) (tgt := 34) rfl dX12_movesThere_29 (by decide) (fun h29 => ?_) (fun h29 => ?_)
      · replace h := gI_neg h29 h
        refine g_aload_n (q0 := 35) (j := 0) rfl dX12_movesThere_34 rfl ?_
        refine g_getf (q0 := 38) (t := 0) (fi := 23) rfl rfl ff_X12_278 dX12_movesThere_35 rfl (sh_711 hOK4) ?_
        refine g_istore_n (q0 := 39) (j := 3) (lv2 := [_, _, _, _, _]) rfl dX12_movesThere_38 (by decide) rfl rfl ?_
        refine g_aload_n (q0 := 40) (j := 0) rfl dX12_movesThere_39 rfl ?_
        refine g_bipush (q0 := 42) rfl dX12_movesThere_40 (k := ?_)
        refine g_iload_n (q0 := 43) (j := 2) rfl dX12_movesThere_42 rfl ?_
        obtain ⟨r43, e43, h⟩ := gI_bd h
        refine g_callVq1 (as := [_, _]) (rest := []) mt_X12_kindAt mi_X12_kindAt se_X12_kindAt ml_X12_303 dX12_movesThere_43 (q0 := 46) rfl rfl (sh_711 hOK4) rfl rfl (ok_kindAt hOK4 e43) rfl ⟨by decide, by decide⟩ (Nat.le_of_ble_eq_true rfl) ⟨Nat.zero_le _, Nat.zero_le _⟩ ?_
        refine g_if_ne (q0 := 49) (tgt := 57) rfl dX12_movesThere_46 (by decide) (fun h46 => ?_) (fun h46 => ?_)
        · replace h := gI_neg h46 h
          refine g_aload_n (q0 := 58) (j := 0) rfl dX12_movesThere_57 rfl ?_
          refine g_bipush (q0 := 60) rfl dX12_movesThere_58 (k := ?_)
          refine g_iload_n (q0 := 61) (j := 3) rfl dX12_movesThere_60 rfl ?_
          obtain ⟨r61, e61, h⟩ := gI_bd h
          refine g_callVq1 (as := [_, _]) (rest := []) mt_X12_kindAt mi_X12_kindAt se_X12_kindAt ml_X12_303 dX12_movesThere_61 (q0 := 64) rfl rfl (sh_711 hOK4) rfl rfl (ok_kindAt hOK4 e61) rfl ⟨by decide, by decide⟩ (Nat.le_of_ble_eq_true rfl) ⟨Nat.zero_le _, Nat.zero_le _⟩ ?_
          refine g_if_ne (q0 := 67) (tgt := 85) rfl dX12_movesThere_64 (by decide) (fun h64 => ?_) (fun h64 => ?_)
          · replace h := gI_neg h64 h
            refine g_aload_n (q0 := 86) (j := 0) rfl dX12_movesThere_85 rfl ?_
            refine g_bipush (q0 := 88) rfl dX12_movesThere_86 (k := ?_)
            refine g_iload_n (q0 := 89) (j := 1) rfl dX12_movesThere_88 rfl ?_
            obtain ⟨p89, e89, h⟩ := gI_bd h
            refine g_callVq1 (as := [_, _]) (rest := []) mt_X12_wrongAt mi_X12_wrongAt se_X12_wrongAt ml_X12_269 dX12_movesThere_89 (q0 := 92) rfl rfl (sh_711 hOK4) rfl rfl (ok_wrongAt hOK4 e89) rfl ⟨by decide, by decide⟩ (Nat.le_of_ble_eq_true rfl) ⟨Nat.zero_le _, Nat.zero_le _⟩ ?_
            have hOK5 : gOK sh p89.2 := gOK_fr hOK4 (fr_wrongAt (b := p89) e89) (by first | decide | (intro a ha; simp only [List.mem_cons, List.not_mem_nil, or_false] at ha; omega)) (by decide)
            rw [← Option.some.inj h]
            refine g_zreturn dX12_movesThere_92 rfl (gnz (bo_wrongAt (b := p89) e89)) ⟨Nat.zero_le _, Nat.zero_le _⟩ ?_
            exact ⟨rfl, rfl, rfl⟩
          · replace h := gI_pos h64 h
            refine g_iload_n (q0 := 68) (j := 2) rfl dX12_movesThere_67 rfl ?_
            refine g_iload_n (q0 := 69) (j := 3) rfl dX12_movesThere_68 rfl ?_
            obtain ⟨r69, e69, h⟩ := gI_bd h
            refine g_callSq1 (as := [_, _]) (rest := []) mt_X12_begins ms_X12_begins ml_X12_154 dX12_movesThere_69 (q0 := 72) rfl rfl (ok_begins hOK4 e69) rfl ⟨by decide, by decide⟩ (Nat.le_of_ble_eq_true rfl) ⟨Nat.zero_le _, Nat.zero_le _⟩ ?_
            refine g_if_ne (q0 := 75) (tgt := 85) rfl dX12_movesThere_72 (by decide) (fun h72 => ?_) (fun h72 => ?_)
            · replace h := gI_neg h72 h
              refine g_aload_n (q0 := 86) (j := 0) rfl dX12_movesThere_85 rfl ?_
              refine g_bipush (q0 := 88) rfl dX12_movesThere_86 (k := ?_)
              refine g_iload_n (q0 := 89) (j := 1) rfl dX12_movesThere_88 rfl ?_
              obtain ⟨p89, e89, h⟩ := gI_bd h
              refine g_callVq1 (as := [_, _]) (rest := []) mt_X12_wrongAt mi_X12_wrongAt se_X12_wrongAt ml_X12_269 dX12_movesThere_89 (q0 := 92) rfl rfl (sh_711 hOK4) rfl rfl (ok_wrongAt hOK4 e89) rfl ⟨by decide, by decide⟩ (Nat.le_of_ble_eq_true rfl) ⟨Nat.zero_le _, Nat.zero_le _⟩ ?_
              have hOK6 : gOK sh p89.2 := gOK_fr hOK4 (fr_wrongAt (b := p89) e89) (by first | decide | (intro a ha; simp only [List.mem_cons, List.not_mem_nil, or_false] at ha; omega)) (by decide)
              rw [← Option.some.inj h]
              refine g_zreturn dX12_movesThere_92 rfl (gnz (bo_wrongAt (b := p89) e89)) ⟨Nat.zero_le _, Nat.zero_le _⟩ ?_
              exact ⟨rfl, rfl, rfl⟩
            · replace h := gI_pos h72 h
              refine g_aload_n (q0 := 76) (j := 0) rfl dX12_movesThere_75 rfl ?_
              refine g_bipush (q0 := 78) rfl dX12_movesThere_76 (k := ?_)
              refine g_iload_n (q0 := 79) (j := 3) rfl dX12_movesThere_78 rfl ?_
              obtain ⟨r79, e79, h⟩ := gI_bd h
              refine g_callVq1 (as := [_, _]) (rest := []) mt_X12_isBarred mi_X12_isBarred se_X12_isBarred ml_X12_306 dX12_movesThere_79 (q0 := 82) rfl rfl (sh_711 hOK4) rfl rfl (ok_isBarred hOK4 e79) rfl ⟨by decide, by decide⟩ (Nat.le_of_ble_eq_true rfl) ⟨Nat.zero_le _, Nat.zero_le _⟩ ?_
              refine g_if_eq (q0 := 85) (tgt := 93) rfl dX12_movesThere_82 (by decide) (fun h82 => ?_) (fun h82 => ?_)
              · replace h := gI_pos h82 h
                refine g_aload_n (q0 := 94) (j := 0) rfl dX12_movesThere_93 rfl ?_
                refine g_iload_n (q0 := 95) (j := 2) rfl dX12_movesThere_94 rfl ?_
                refine g_iload_n (q0 := 96) (j := 3) rfl dX12_movesThere_95 rfl ?_
                obtain ⟨r96, e96, h⟩ := gI_bd h
                refine g_callVq1 (as := [_, _]) (rest := []) mt_X12_isTooLong mi_X12_isTooLong se_X12_isTooLong ml_X12_316 dX12_movesThere_96 (q0 := 99) rfl rfl (sh_711 hOK4) rfl rfl (ok_isTooLong hOK4 e96) rfl ⟨by decide, by decide⟩ (Nat.le_of_ble_eq_true rfl) ⟨Nat.zero_le _, Nat.zero_le _⟩ ?_
                refine g_if_eq (q0 := 102) (tgt := 109) rfl dX12_movesThere_99 (by decide) (fun h99 => ?_) (fun h99 => ?_)
                · replace h := gI_pos h99 h
                  refine g_aload_n (q0 := 110) (j := 0) rfl dX12_movesThere_109 rfl ?_
                  refine g_bipush (q0 := 112) rfl dX12_movesThere_110 (k := ?_)
                  refine g_bipush (q0 := 114) rfl dX12_movesThere_112 (k := ?_)
                  obtain ⟨m114, e114, h⟩ := gI_bd h
                  refine g_callVq0 (as := [_, _]) (rest := []) mt_X12_copyTree mi_X12_copyTree se_X12_copyTree ml_X12_202 dX12_movesThere_114 (q0 := 117) rfl rfl (sh_711 hOK4) rfl rfl (ok_copyTree hOK4 e114) rfl ⟨by decide, by decide⟩ (Nat.le_of_ble_eq_true rfl) ⟨Nat.zero_le _, Nat.zero_le _⟩ ?_
                  have hOK7 : gOK sh m114 := gOK_fr hOK4 (fr_copyTree (b := m114) e114) (by first | decide | (intro a ha; simp only [List.mem_cons, List.not_mem_nil, or_false] at ha; omega)) (by decide)
                  refine g_aload_n (q0 := 118) (j := 0) rfl dX12_movesThere_117 rfl ?_
                  refine g_bipush (q0 := 120) rfl dX12_movesThere_118 (k := ?_)
                  refine g_iload_n (q0 := 121) (j := 2) rfl dX12_movesThere_120 rfl ?_
                  obtain ⟨m121, e121, h⟩ := gI_bd h
                  refine g_callVq0 (as := [_, _]) (rest := []) mt_X12_takes mi_X12_takes se_X12_takes ml_X12_313 dX12_movesThere_121 (q0 := 124) rfl rfl (sh_711 hOK7) rfl rfl (ok_takes hOK7 e121) rfl ⟨by decide, by decide⟩ (Nat.le_of_ble_eq_true rfl) ⟨Nat.zero_le _, Nat.zero_le _⟩ ?_
                  have hOK8 : gOK sh m121 := gOK_fr hOK7 (fr_takes (b := m121) e121) (by first | decide | (intro a ha; simp only [List.mem_cons, List.not_mem_nil, or_false] at ha; omega)) (by decide)
                  refine g_iconst (q0 := 125) rfl dX12_movesThere_124 (k := ?_)
                  refine g_istore (q0 := 127) (j := 4) (lv2 := [_, _, _, _, _]) rfl dX12_movesThere_125 (by decide) rfl rfl ?_
                  exact ok_movesThere_127 hOK8 h
                · replace h := gI_neg h99 h
                  refine g_aload_n (q0 := 103) (j := 0) rfl dX12_movesThere_102 rfl ?_
                  refine g_iconst (q0 := 104) rfl dX12_movesThere_103 (k := ?_)
                  refine g_iload_n (q0 := 105) (j := 1) rfl dX12_movesThere_104 rfl ?_
                  obtain ⟨p105, e105, h⟩ := gI_bd h
                  refine g_callVq1 (as := [_, _]) (rest := []) mt_X12_wrongAt mi_X12_wrongAt se_X12_wrongAt ml_X12_269 dX12_movesThere_105 (q0 := 108) rfl rfl (sh_711 hOK4) rfl rfl (ok_wrongAt hOK4 e105) rfl ⟨by decide, by decide⟩ (Nat.le_of_ble_eq_true rfl) ⟨Nat.zero_le _, Nat.zero_le _⟩ ?_
                  have hOK9 : gOK sh p105.2 := gOK_fr hOK4 (fr_wrongAt (b := p105) e105) (by first | decide | (intro a ha; simp only [List.mem_cons, List.not_mem_nil, or_false] at ha; omega)) (by decide)
                  rw [← Option.some.inj h]
                  refine g_zreturn dX12_movesThere_108 rfl (gnz (bo_wrongAt (b := p105) e105)) ⟨Nat.zero_le _, Nat.zero_le _⟩ ?_
                  exact ⟨rfl, rfl, rfl⟩
              · replace h := gI_neg h82 h
                refine g_aload_n (q0 := 86) (j := 0) rfl dX12_movesThere_85 rfl ?_
                refine g_bipush (q0 := 88) rfl dX12_movesThere_86 (k := ?_)
                refine g_iload_n (q0 := 89) (j := 1) rfl dX12_movesThere_88 rfl ?_
                obtain ⟨p89, e89, h⟩ := gI_bd h
                refine g_callVq1 (as := [_, _]) (rest := []) mt_X12_wrongAt mi_X12_wrongAt se_X12_wrongAt ml_X12_269 dX12_movesThere_89 (q0 := 92) rfl rfl (sh_711 hOK4) rfl rfl (ok_wrongAt hOK4 e89) rfl ⟨by decide, by decide⟩ (Nat.le_of_ble_eq_true rfl) ⟨Nat.zero_le _, Nat.zero_le _⟩ ?_
                have hOK10 : gOK sh p89.2 := gOK_fr hOK4 (fr_wrongAt (b := p89) e89) (by first | decide | (intro a ha; simp only [List.mem_cons, List.not_mem_nil, or_false] at ha; omega)) (by decide)
                rw [← Option.some.inj h]
                refine g_zreturn dX12_movesThere_92 rfl (gnz (bo_wrongAt (b := p89) e89)) ⟨Nat.zero_le _, Nat.zero_le _⟩ ?_
                exact ⟨rfl, rfl, rfl⟩
        · replace h := gI_pos h46 h
          refine g_aload_n (q0 := 50) (j := 0) rfl dX12_movesThere_49 rfl ?_
          refine g_bipush (q0 := 52) rfl dX12_movesThere_50 (k := ?_)
          refine g_iload_n (q0 := 53) (j := 1) rfl dX12_movesThere_52 rfl ?_
          obtain ⟨p53, e53, h⟩ := gI_bd h
          refine g_callVq1 (as := [_, _]) (rest := []) mt_X12_wrongAt mi_X12_wrongAt se_X12_wrongAt ml_X12_269 dX12_movesThere_53 (q0 := 56) rfl rfl (sh_711 hOK4) rfl rfl (ok_wrongAt hOK4 e53) rfl ⟨by decide, by decide⟩ (Nat.le_of_ble_eq_true rfl) ⟨Nat.zero_le _, Nat.zero_le _⟩ ?_
          have hOK11 : gOK sh p53.2 := gOK_fr hOK4 (fr_wrongAt (b := p53) e53) (by first | decide | (intro a ha; simp only [List.mem_cons, List.not_mem_nil, or_false] at ha; omega)) (by decide)
          rw [← Option.some.inj h]
          refine g_zreturn dX12_movesThere_56 rfl (gnz (bo_wrongAt (b := p53) e53)) ⟨Nat.zero_le _, Nat.zero_le _⟩ ?_
          exact ⟨rfl, rfl, rfl⟩
      · replace h := gI_pos h29 h
        refine g_iconst (q0 := 33) rfl dX12_movesThere_32 (k := ?_)
        rw [← Option.some.inj h]
        refine g_zreturn dX12_movesThere_33 rfl (gnz (Or.inl rfl)) ⟨Nat.zero_le _, Nat.zero_le _⟩ ?_
        exact ⟨rfl, rfl, rfl⟩
  · replace h := gI_pos h5 h
    refine g_iconst (q0 := 9) rfl dX12_movesThere_8 (k := ?_)
    rw [← Option.some.inj h]
    refine g_zreturn dX12_movesThere_9 rfl (gnz (Or.inl rfl)) ⟨Nat.zero_le _, Nat.zero_le _⟩ ?_
    exact ⟨rfl, rfl, rfl⟩
-- ==== fetches
theorem dX12_fetches_0 : decode cX12_fetches 0 = .ok (.aload_n 0, 1) := by decide +kernel
theorem dX12_fetches_1 : decode cX12_fetches 1 = .ok (.invokevirtual 265, 3) := by decide +kernel
theorem dX12_fetches_4 : decode cX12_fetches 4 = .ok (.bipush 48, 2) := by decide +kernel
theorem dX12_fetches_6 : decode cX12_fetches 6 = .ok (.isub, 1) := by decide +kernel
theorem dX12_fetches_7 : decode cX12_fetches 7 = .ok (.istore_n 2, 1) := by decide +kernel
theorem dX12_fetches_8 : decode cX12_fetches 8 = .ok (.aload_n 0, 1) := by decide +kernel
theorem dX12_fetches_9 : decode cX12_fetches 9 = .ok (.invokevirtual 265, 3) := by decide +kernel
theorem dX12_fetches_12 : decode cX12_fetches 12 = .ok (.invokestatic 272, 3) := by decide +kernel
theorem dX12_fetches_15 : decode cX12_fetches 15 = .ok (.ifCond .ne 13, 3) := by decide +kernel
theorem dX12_fetches_18 : decode cX12_fetches 18 = .ok (.aload_n 0, 1) := by decide +kernel
theorem dX12_fetches_19 : decode cX12_fetches 19 = .ok (.iconst 1, 1) := by decide +kernel
theorem dX12_fetches_20 : decode cX12_fetches 20 = .ok (.aload_n 0, 1) := by decide +kernel
theorem dX12_fetches_21 : decode cX12_fetches 21 = .ok (.getfield 256, 3) := by decide +kernel
theorem dX12_fetches_24 : decode cX12_fetches 24 = .ok (.invokevirtual 269, 3) := by decide +kernel
theorem dX12_fetches_27 : decode cX12_fetches 27 = .ok (.ireturn, 1) := by decide +kernel
theorem dX12_fetches_28 : decode cX12_fetches 28 = .ok (.iload_n 2, 1) := by decide +kernel
theorem dX12_fetches_29 : decode cX12_fetches 29 = .ok (.aload_n 0, 1) := by decide +kernel
theorem dX12_fetches_30 : decode cX12_fetches 30 = .ok (.getfield 186, 3) := by decide +kernel
theorem dX12_fetches_33 : decode cX12_fetches 33 = .ok (.if_icmp .lt 13, 3) := by decide +kernel
theorem dX12_fetches_36 : decode cX12_fetches 36 = .ok (.aload_n 0, 1) := by decide +kernel
theorem dX12_fetches_37 : decode cX12_fetches 37 = .ok (.iconst 3, 1) := by decide +kernel
theorem dX12_fetches_38 : decode cX12_fetches 38 = .ok (.aload_n 0, 1) := by decide +kernel
theorem dX12_fetches_39 : decode cX12_fetches 39 = .ok (.getfield 256, 3) := by decide +kernel
theorem dX12_fetches_42 : decode cX12_fetches 42 = .ok (.invokevirtual 269, 3) := by decide +kernel
theorem dX12_fetches_45 : decode cX12_fetches 45 = .ok (.ireturn, 1) := by decide +kernel
theorem dX12_fetches_46 : decode cX12_fetches 46 = .ok (.aload_n 0, 1) := by decide +kernel
theorem dX12_fetches_47 : decode cX12_fetches 47 = .ok (.aload_n 0, 1) := by decide +kernel
theorem dX12_fetches_48 : decode cX12_fetches 48 = .ok (.getfield 256, 3) := by decide +kernel
theorem dX12_fetches_51 : decode cX12_fetches 51 = .ok (.iconst 1, 1) := by decide +kernel
theorem dX12_fetches_52 : decode cX12_fetches 52 = .ok (.iadd, 1) := by decide +kernel
theorem dX12_fetches_53 : decode cX12_fetches 53 = .ok (.putfield 256, 3) := by decide +kernel
theorem dX12_fetches_56 : decode cX12_fetches 56 = .ok (.aload_n 0, 1) := by decide +kernel
theorem dX12_fetches_57 : decode cX12_fetches 57 = .ok (.iconst 4, 1) := by decide +kernel
theorem dX12_fetches_58 : decode cX12_fetches 58 = .ok (.invokevirtual 294, 3) := by decide +kernel
theorem dX12_fetches_61 : decode cX12_fetches 61 = .ok (.ifCond .ne 5, 3) := by decide +kernel
theorem dX12_fetches_64 : decode cX12_fetches 64 = .ok (.iconst 0, 1) := by decide +kernel
theorem dX12_fetches_65 : decode cX12_fetches 65 = .ok (.ireturn, 1) := by decide +kernel
theorem dX12_fetches_66 : decode cX12_fetches 66 = .ok (.aload_n 0, 1) := by decide +kernel
theorem dX12_fetches_67 : decode cX12_fetches 67 = .ok (.getfield 37, 3) := by decide +kernel
theorem dX12_fetches_70 : decode cX12_fetches 70 = .ok (.iload_n 2, 1) := by decide +kernel
theorem dX12_fetches_71 : decode cX12_fetches 71 = .ok (.iaload, 1) := by decide +kernel
theorem dX12_fetches_72 : decode cX12_fetches 72 = .ok (.istore_n 3, 1) := by decide +kernel
theorem dX12_fetches_73 : decode cX12_fetches 73 = .ok (.aload_n 0, 1) := by decide +kernel
theorem dX12_fetches_74 : decode cX12_fetches 74 = .ok (.iload_n 3, 1) := by decide +kernel
theorem dX12_fetches_75 : decode cX12_fetches 75 = .ok (.aload_n 0, 1) := by decide +kernel
theorem dX12_fetches_76 : decode cX12_fetches 76 = .ok (.getfield 278, 3) := by decide +kernel
theorem dX12_fetches_79 : decode cX12_fetches 79 = .ok (.invokevirtual 175, 3) := by decide +kernel
theorem dX12_fetches_82 : decode cX12_fetches 82 = .ok (.istore 4, 2) := by decide +kernel
theorem dX12_fetches_84 : decode cX12_fetches 84 = .ok (.iload 4, 2) := by decide +kernel
theorem dX12_fetches_86 : decode cX12_fetches 86 = .ok (.ifCond .le 24, 3) := by decide +kernel
theorem dX12_fetches_89 : decode cX12_fetches 89 = .ok (.aload_n 0, 1) := by decide +kernel
theorem dX12_fetches_90 : decode cX12_fetches 90 = .ok (.bipush 120, 2) := by decide +kernel
theorem dX12_fetches_92 : decode cX12_fetches 92 = .ok (.aload_n 0, 1) := by decide +kernel
theorem dX12_fetches_93 : decode cX12_fetches 93 = .ok (.getfield 278, 3) := by decide +kernel
theorem dX12_fetches_96 : decode cX12_fetches 96 = .ok (.invokevirtual 306, 3) := by decide +kernel
theorem dX12_fetches_99 : decode cX12_fetches 99 = .ok (.ifCond .eq 11, 3) := by decide +kernel
theorem dX12_fetches_102 : decode cX12_fetches 102 = .ok (.aload_n 0, 1) := by decide +kernel
theorem dX12_fetches_103 : decode cX12_fetches 103 = .ok (.bipush 7, 2) := by decide +kernel
theorem dX12_fetches_105 : decode cX12_fetches 105 = .ok (.iload_n 1, 1) := by decide +kernel
theorem dX12_fetches_106 : decode cX12_fetches 106 = .ok (.invokevirtual 269, 3) := by decide +kernel
theorem dX12_fetches_109 : decode cX12_fetches 109 = .ok (.ireturn, 1) := by decide +kernel
theorem dX12_fetches_110 : decode cX12_fetches 110 = .ok (.aload_n 0, 1) := by decide +kernel
theorem dX12_fetches_111 : decode cX12_fetches 111 = .ok (.getfield 28, 3) := by decide +kernel
theorem dX12_fetches_114 : decode cX12_fetches 114 = .ok (.bipush 120, 2) := by decide +kernel
theorem dX12_fetches_116 : decode cX12_fetches 116 = .ok (.iaload, 1) := by decide +kernel
theorem dX12_fetches_117 : decode cX12_fetches 117 = .ok (.aload_n 0, 1) := by decide +kernel
theorem dX12_fetches_118 : decode cX12_fetches 118 = .ok (.bipush 120, 2) := by decide +kernel
theorem dX12_fetches_120 : decode cX12_fetches 120 = .ok (.aload_n 0, 1) := by decide +kernel
theorem dX12_fetches_121 : decode cX12_fetches 121 = .ok (.getfield 278, 3) := by decide +kernel
theorem dX12_fetches_124 : decode cX12_fetches 124 = .ok (.invokevirtual 175, 3) := by decide +kernel
theorem dX12_fetches_127 : decode cX12_fetches 127 = .ok (.isub, 1) := by decide +kernel
theorem dX12_fetches_128 : decode cX12_fetches 128 = .ok (.iload 4, 2) := by decide +kernel
theorem dX12_fetches_130 : decode cX12_fetches 130 = .ok (.iadd, 1) := by decide +kernel
theorem dX12_fetches_131 : decode cX12_fetches 131 = .ok (.bipush 16, 2) := by decide +kernel
theorem dX12_fetches_133 : decode cX12_fetches 133 = .ok (.if_icmp .le 10, 3) := by decide +kernel
theorem dX12_fetches_136 : decode cX12_fetches 136 = .ok (.aload_n 0, 1) := by decide +kernel
theorem dX12_fetches_137 : decode cX12_fetches 137 = .ok (.iconst 4, 1) := by decide +kernel
theorem dX12_fetches_138 : decode cX12_fetches 138 = .ok (.iload_n 1, 1) := by decide +kernel
theorem dX12_fetches_139 : decode cX12_fetches 139 = .ok (.invokevirtual 269, 3) := by decide +kernel
theorem dX12_fetches_142 : decode cX12_fetches 142 = .ok (.ireturn, 1) := by decide +kernel
theorem dX12_fetches_143 : decode cX12_fetches 143 = .ok (.aload_n 0, 1) := by decide +kernel
theorem dX12_fetches_144 : decode cX12_fetches 144 = .ok (.bipush 120, 2) := by decide +kernel
theorem dX12_fetches_146 : decode cX12_fetches 146 = .ok (.aload_n 0, 1) := by decide +kernel
theorem dX12_fetches_147 : decode cX12_fetches 147 = .ok (.getfield 278, 3) := by decide +kernel
theorem dX12_fetches_150 : decode cX12_fetches 150 = .ok (.invokevirtual 313, 3) := by decide +kernel
theorem dX12_fetches_153 : decode cX12_fetches 153 = .ok (.iconst 0, 1) := by decide +kernel
theorem dX12_fetches_154 : decode cX12_fetches 154 = .ok (.istore 5, 2) := by decide +kernel
theorem dX12_fetches_156 : decode cX12_fetches 156 = .ok (.iload 5, 2) := by decide +kernel
theorem dX12_fetches_158 : decode cX12_fetches 158 = .ok (.aload_n 0, 1) := by decide +kernel
theorem dX12_fetches_159 : decode cX12_fetches 159 = .ok (.getfield 28, 3) := by decide +kernel
theorem dX12_fetches_162 : decode cX12_fetches 162 = .ok (.iload_n 3, 1) := by decide +kernel
theorem dX12_fetches_163 : decode cX12_fetches 163 = .ok (.iaload, 1) := by decide +kernel
theorem dX12_fetches_164 : decode cX12_fetches 164 = .ok (.if_icmp .ge 46, 3) := by decide +kernel
theorem dX12_fetches_167 : decode cX12_fetches 167 = .ok (.aload_n 0, 1) := by decide +kernel
theorem dX12_fetches_168 : decode cX12_fetches 168 = .ok (.iload_n 3, 1) := by decide +kernel
theorem dX12_fetches_169 : decode cX12_fetches 169 = .ok (.iload 5, 2) := by decide +kernel
theorem dX12_fetches_171 : decode cX12_fetches 171 = .ok (.invokevirtual 162, 3) := by decide +kernel
theorem dX12_fetches_174 : decode cX12_fetches 174 = .ok (.aload_n 0, 1) := by decide +kernel
theorem dX12_fetches_175 : decode cX12_fetches 175 = .ok (.getfield 278, 3) := by decide +kernel
theorem dX12_fetches_178 : decode cX12_fetches 178 = .ok (.invokestatic 172, 3) := by decide +kernel
theorem dX12_fetches_181 : decode cX12_fetches 181 = .ok (.ifCond .eq 23, 3) := by decide +kernel
theorem dX12_fetches_184 : decode cX12_fetches 184 = .ok (.aload_n 0, 1) := by decide +kernel
theorem dX12_fetches_185 : decode cX12_fetches 185 = .ok (.bipush 120, 2) := by decide +kernel
theorem dX12_fetches_187 : decode cX12_fetches 187 = .ok (.aload_n 0, 1) := by decide +kernel
theorem dX12_fetches_188 : decode cX12_fetches 188 = .ok (.iload_n 3, 1) := by decide +kernel
theorem dX12_fetches_189 : decode cX12_fetches 189 = .ok (.iload 5, 2) := by decide +kernel
theorem dX12_fetches_191 : decode cX12_fetches 191 = .ok (.invokevirtual 162, 3) := by decide +kernel
theorem dX12_fetches_194 : decode cX12_fetches 194 = .ok (.aload_n 0, 1) := by decide +kernel
theorem dX12_fetches_195 : decode cX12_fetches 195 = .ok (.iload_n 3, 1) := by decide +kernel
theorem dX12_fetches_196 : decode cX12_fetches 196 = .ok (.iload 5, 2) := by decide +kernel
theorem dX12_fetches_198 : decode cX12_fetches 198 = .ok (.invokevirtual 169, 3) := by decide +kernel
theorem dX12_fetches_201 : decode cX12_fetches 201 = .ok (.invokevirtual 309, 3) := by decide +kernel
theorem dX12_fetches_204 : decode cX12_fetches 204 = .ok (.iinc 5 1, 3) := by decide +kernel
theorem dX12_fetches_207 : decode cX12_fetches 207 = .ok (.goto (-51), 3) := by decide +kernel
theorem dX12_fetches_210 : decode cX12_fetches 210 = .ok (.iconst 1, 1) := by decide +kernel
theorem dX12_fetches_211 : decode cX12_fetches 211 = .ok (.ireturn, 1) := by decide +kernel
noncomputable def st_fetches : Nat × List Int × gM → Option ((Nat × List Int × gM) ⊕ (Int × gM))
  | (0, [x1, x2, x3, x4], M) => (Option.bind (F_filesBelow M 120 (M 711 23)) (fun r124 =>
      (if (16 : Int) < (gw32 ((gw32 ((M 718 120) - r124)) + x4)) then
        (Option.bind (F_wrongAt M 4 x1) (fun p139 =>
          some (.inr (p139.1, p139.2))))
      else
        (Option.bind (F_takes M 120 (M 711 23)) (fun m150 =>
          some (.inl (1, [x1, x2, x3, x4, 0], m150)))))))
  | (1, [x1, x2, x3, x4, x5], M) => (if 0 ≤ x3 ∧ x3 < 123 then
      (if x5 < (M 718 x3) then
        (Option.bind (F_pathAt M x3 x5) (fun r171 =>
          (Option.bind (F_isAtOrBelow r171 (M 711 23)) (fun r178 =>
            (if r178 = 0 then
              some (.inl (1, [x1, x2, x3, x4, (gw32 (x5 + 1))], M))
            else
              (Option.bind (F_pathAt M x3 x5) (fun r191 =>
                (Option.bind (F_contentAt M x3 x5) (fun r198 =>
                  (Option.bind (F_puts M 120 r191 r198) (fun m201 =>
                    some (.inl (1, [x1, x2, x3, x4, (gw32 (x5 + 1))], m201)))))))))))))
      else
        some (.inr (1, M)))
    else none)
  | _ => none
theorem sk_fetches_110 (k : Nat × List Int × gM → Option (Int × gM)) (M : gM) (x1 x2 x3 x4 : Int) : gWk k (st_fetches (0, [x1, x2, x3, x4], M)) = (Option.bind (F_filesBelow M 120 (M 711 23)) (fun r124 =>
    (if (16 : Int) < (gw32 ((gw32 ((M 718 120) - r124)) + x4)) then
      (Option.bind (F_wrongAt M 4 x1) (fun p139 =>
        some (p139.1, p139.2)))
    else
      (Option.bind (F_takes M 120 (M 711 23)) (fun m150 =>
        k (1, [x1, x2, x3, x4, 0], m150)))))) := by
  simp only [st_fetches, gWk_ite, gWk_bind, gWk_inl, gWk_inr, gWk_none]
theorem sk_fetches_156 (k : Nat × List Int × gM → Option (Int × gM)) (M : gM) (x1 x2 x3 x4 x5 : Int) : gWk k (st_fetches (1, [x1, x2, x3, x4, x5], M)) = (if 0 ≤ x3 ∧ x3 < 123 then
    (if x5 < (M 718 x3) then
      (Option.bind (F_pathAt M x3 x5) (fun r171 =>
        (Option.bind (F_isAtOrBelow r171 (M 711 23)) (fun r178 =>
          (if r178 = 0 then
            k (1, [x1, x2, x3, x4, (gw32 (x5 + 1))], M)
          else
            (Option.bind (F_pathAt M x3 x5) (fun r191 =>
              (Option.bind (F_contentAt M x3 x5) (fun r198 =>
                (Option.bind (F_puts M 120 r191 r198) (fun m201 =>
                  k (1, [x1, x2, x3, x4, (gw32 (x5 + 1))], m201))))))))))))
    else
      some (1, M))
  else none) := by
  simp only [st_fetches, gWk_ite, gWk_bind, gWk_inl, gWk_inr, gWk_none]
noncomputable def F_fetches_110 (M : gM) (x1 x2 x3 x4 : Int) : Option (Int × gM) := gWh (st_fetches) (0, [x1, x2, x3, x4], M)
noncomputable def F_fetches_156 (M : gM) (x1 x2 x3 x4 x5 : Int) : Option (Int × gM) := gWh (st_fetches) (1, [x1, x2, x3, x4, x5], M)
theorem eq_fetches_110 (M : gM) (x1 x2 x3 x4 : Int) : F_fetches_110 M x1 x2 x3 x4 = (Option.bind (F_filesBelow M 120 (M 711 23)) (fun r124 =>
    (if (16 : Int) < (gw32 ((gw32 ((M 718 120) - r124)) + x4)) then
      (Option.bind (F_wrongAt M 4 x1) (fun p139 =>
        some (p139.1, p139.2)))
    else
      (Option.bind (F_takes M 120 (M 711 23)) (fun m150 =>
        F_fetches_156 m150 x1 x2 x3 x4 0))))) := (gWh_eq _).trans (sk_fetches_110 _ M x1 x2 x3 x4)
theorem eq_fetches_156 (M : gM) (x1 x2 x3 x4 x5 : Int) : F_fetches_156 M x1 x2 x3 x4 x5 = (if 0 ≤ x3 ∧ x3 < 123 then
    (if x5 < (M 718 x3) then
      (Option.bind (F_pathAt M x3 x5) (fun r171 =>
        (Option.bind (F_isAtOrBelow r171 (M 711 23)) (fun r178 =>
          (if r178 = 0 then
            F_fetches_156 M x1 x2 x3 x4 (gw32 (x5 + 1))
          else
            (Option.bind (F_pathAt M x3 x5) (fun r191 =>
              (Option.bind (F_contentAt M x3 x5) (fun r198 =>
                (Option.bind (F_puts M 120 r191 r198) (fun m201 =>
                  F_fetches_156 m201 x1 x2 x3 x4 (gw32 (x5 + 1)))))))))))))
    else
      some (1, M))
  else none) := (gWh_eq _).trans (sk_fetches_156 _ M x1 x2 x3 x4 x5)
noncomputable def F_fetches (M : gM) (a1 : Int) : Option (Int × gM) := (Option.bind (F_here M) (fun r1 =>
    (Option.bind (F_here M) (fun r9 =>
      (Option.bind (F_isDigit r9) (fun r12 =>
        (if r12 = 0 then
          (Option.bind (F_wrongAt M 1 (M 711 19)) (fun p24 =>
            some (p24.1, p24.2)))
        else
          (if (gw32 (r1 - (48 : Int))) < (M 711 12) then
            (Option.bind (F_readsPath (gU M 711 19 (gw32 ((M 711 19) + (1 : Int)))) 4) (fun p58 =>
              (if p58.1 = 0 then
                some (0, p58.2)
              else
                (if 0 ≤ (gw32 (r1 - (48 : Int))) ∧ (gw32 (r1 - (48 : Int))) < 3 then
                  (Option.bind (F_filesBelow p58.2 (p58.2 721 (gw32 (r1 - (48 : Int)))) (p58.2 711 23)) (fun r79 =>
                    (if (0 : Int) < r79 then
                      (Option.bind (F_isBarred p58.2 120 (p58.2 711 23)) (fun r96 =>
                        (if r96 = 0 then
                          F_fetches_110 p58.2 a1 (gw32 (r1 - (48 : Int))) (p58.2 721 (gw32 (r1 - (48 : Int)))) r79
                        else
                          (Option.bind (F_wrongAt p58.2 7 a1) (fun p106 =>
                            some (p106.1, p106.2))))))
                    else
                      F_fetches_110 p58.2 a1 (gw32 (r1 - (48 : Int))) (p58.2 721 (gw32 (r1 - (48 : Int)))) r79)))
                else none))))
          else
            (Option.bind (F_wrongAt M 3 (M 711 19)) (fun p42 =>
              some (p42.1, p42.2)))))))))))
theorem eq_fetches (M : gM) (a1 : Int) : F_fetches M a1 = (Option.bind (F_here M) (fun r1 =>
    (Option.bind (F_here M) (fun r9 =>
      (Option.bind (F_isDigit r9) (fun r12 =>
        (if r12 = 0 then
          (Option.bind (F_wrongAt M 1 (M 711 19)) (fun p24 =>
            some (p24.1, p24.2)))
        else
          (if (gw32 (r1 - (48 : Int))) < (M 711 12) then
            (Option.bind (F_readsPath (gU M 711 19 (gw32 ((M 711 19) + (1 : Int)))) 4) (fun p58 =>
              (if p58.1 = 0 then
                some (0, p58.2)
              else
                (if 0 ≤ (gw32 (r1 - (48 : Int))) ∧ (gw32 (r1 - (48 : Int))) < 3 then
                  (Option.bind (F_filesBelow p58.2 (p58.2 721 (gw32 (r1 - (48 : Int)))) (p58.2 711 23)) (fun r79 =>
                    (if (0 : Int) < r79 then
                      (Option.bind (F_isBarred p58.2 120 (p58.2 711 23)) (fun r96 =>
                        (if r96 = 0 then
                          F_fetches_110 p58.2 a1 (gw32 (r1 - (48 : Int))) (p58.2 721 (gw32 (r1 - (48 : Int)))) r79
                        else
                          (Option.bind (F_wrongAt p58.2 7 a1) (fun p106 =>
                            some (p106.1, p106.2))))))
                    else
                      F_fetches_110 p58.2 a1 (gw32 (r1 - (48 : Int))) (p58.2 721 (gw32 (r1 - (48 : Int)))) r79)))
                else none))))
          else
            (Option.bind (F_wrongAt M 3 (M 711 19)) (fun p42 =>
              some (p42.1, p42.2))))))))))) := rfl
theorem frp_fetches : ∀ (s : Nat × List Int × gM) (b : Int × gM), gWh (st_fetches) s = some b → (∀ (x1 x2 x3 x4 : Int) (M : gM), s = (0, [x1, x2, x3, x4], M) → gFr [718, 719, 720] [19, 21, 23] M b.2) ∧ (∀ (x1 x2 x3 x4 x5 : Int) (M : gM), s = (1, [x1, x2, x3, x4, x5], M) → gFr [718, 719, 720] [19, 21, 23] M b.2) := by
  refine gWh_ind (fun k hk s b h => ⟨?_, ?_⟩)
  · rintro x1 x2 x3 x4 M rfl
    rw [sk_fetches_110] at h
    obtain ⟨r124, e124, h⟩ := gI_bd h
    rcases gI_or h with h | h
    · obtain ⟨p139, e139, h⟩ := gI_bd h
      rw [← Option.some.inj h]
      exact (gFr_t (gFr_r [718, 719, 720] [19, 21, 23] _) (fr_wrongAt (b := p139) e139) (by first | decide | simp) (by decide))
    · obtain ⟨m150, e150, h⟩ := gI_bd h
      exact gFr_t (gFr_t (gFr_r [718, 719, 720] [19, 21, 23] _) (fr_takes (b := m150) e150) (by first | decide | simp) (by decide)) ((hk _ _ h).2 _ _ _ _ _ _ rfl) (fun _ z => z) (fun _ z => z)
  · rintro x1 x2 x3 x4 x5 M rfl
    rw [sk_fetches_156] at h
    obtain ⟨g3, h⟩ := gI_gd h
    rcases gI_or h with h | h
    · obtain ⟨r171, e171, h⟩ := gI_bd h
      obtain ⟨r178, e178, h⟩ := gI_bd h
      rcases gI_or h with h | h
      · exact gFr_t (gFr_r [718, 719, 720] [19, 21, 23] _) ((hk _ _ h).2 _ _ _ _ _ _ rfl) (fun _ z => z) (fun _ z => z)
      · obtain ⟨r191, e191, h⟩ := gI_bd h
        obtain ⟨r198, e198, h⟩ := gI_bd h
        obtain ⟨m201, e201, h⟩ := gI_bd h
        exact gFr_t (gFr_t (gFr_r [718, 719, 720] [19, 21, 23] _) (fr_puts (b := m201) e201) (by first | decide | simp) (by decide)) ((hk _ _ h).2 _ _ _ _ _ _ rfl) (fun _ z => z) (fun _ z => z)
    · rw [← Option.some.inj h]
      exact (gFr_r [718, 719, 720] [19, 21, 23] _)
theorem fr_fetches_110 {M : gM} {x1 x2 x3 x4 : Int} {b : Int × gM} (h : F_fetches_110 M x1 x2 x3 x4 = some b) : gFr [718, 719, 720] [19, 21, 23] M b.2 :=
  (frp_fetches _ _ h).1 _ _ _ _ _ rfl
theorem fr_fetches_156 {M : gM} {x1 x2 x3 x4 x5 : Int} {b : Int × gM} (h : F_fetches_156 M x1 x2 x3 x4 x5 = some b) : gFr [718, 719, 720] [19, 21, 23] M b.2 :=
  (frp_fetches _ _ h).2 _ _ _ _ _ _ rfl
theorem fr_fetches {M : gM} {a1 : Int} {b : Int × gM} (h : F_fetches M a1 = some b) : gFr [718, 719, 720] [19, 21, 23] M b.2 := by
  rw [eq_fetches] at h
  obtain ⟨r1, e1, h⟩ := gI_bd h
  obtain ⟨r9, e9, h⟩ := gI_bd h
  obtain ⟨r12, e12, h⟩ := gI_bd h
  rcases gI_or h with h | h
  · obtain ⟨p24, e24, h⟩ := gI_bd h
    rw [← Option.some.inj h]
    exact (gFr_t (gFr_r [718, 719, 720] [19, 21, 23] _) (fr_wrongAt (b := p24) e24) (by first | decide | simp) (by decide))
  · rcases gI_or h with h | h
    · obtain ⟨p58, e58, h⟩ := gI_bd h
      rcases gI_or h with h | h
      · rw [← Option.some.inj h]
        exact (gFr_t (gFr_f (gFr_r [718, 719, 720] [19, 21, 23] _) (.head _)) (fr_readsPath (b := p58) e58) (by first | decide | simp) (by decide))
      · obtain ⟨g7, h⟩ := gI_gd h
        obtain ⟨r79, e79, h⟩ := gI_bd h
        rcases gI_or h with h | h
        · obtain ⟨r96, e96, h⟩ := gI_bd h
          rcases gI_or h with h | h
          · exact gFr_t (gFr_t (gFr_f (gFr_r [718, 719, 720] [19, 21, 23] _) (.head _)) (fr_readsPath (b := p58) e58) (by first | decide | simp) (by decide)) (fr_fetches_110 h) (fun _ z => z) (fun _ z => z)
          · obtain ⟨p106, e106, h⟩ := gI_bd h
            rw [← Option.some.inj h]
            exact (gFr_t (gFr_t (gFr_f (gFr_r [718, 719, 720] [19, 21, 23] _) (.head _)) (fr_readsPath (b := p58) e58) (by first | decide | simp) (by decide)) (fr_wrongAt (b := p106) e106) (by first | decide | simp) (by decide))
        · exact gFr_t (gFr_t (gFr_f (gFr_r [718, 719, 720] [19, 21, 23] _) (.head _)) (fr_readsPath (b := p58) e58) (by first | decide | simp) (by decide)) (fr_fetches_110 h) (fun _ z => z) (fun _ z => z)
    · obtain ⟨p42, e42, h⟩ := gI_bd h
      rw [← Option.some.inj h]
      exact (gFr_t (gFr_r [718, 719, 720] [19, 21, 23] _) (fr_wrongAt (b := p42) e42) (by first | decide | simp) (by decide))
theorem bop_fetches : ∀ (s : Nat × List Int × gM) (b : Int × gM), gWh (st_fetches) s = some b → (∀ (x1 x2 x3 x4 : Int) (M : gM), s = (0, [x1, x2, x3, x4], M) → b.1 = 0 ∨ b.1 = 1) ∧ (∀ (x1 x2 x3 x4 x5 : Int) (M : gM), s = (1, [x1, x2, x3, x4, x5], M) → b.1 = 0 ∨ b.1 = 1) := by
  refine gWh_ind (fun k hk s b h => ⟨?_, ?_⟩)
  · rintro x1 x2 x3 x4 M rfl
    rw [sk_fetches_110] at h
    obtain ⟨r124, e124, h⟩ := gI_bd h
    rcases gI_or h with h | h
    · obtain ⟨p139, e139, h⟩ := gI_bd h
      rw [← Option.some.inj h]
      exact (bo_wrongAt (b := p139) e139)
    · obtain ⟨m150, e150, h⟩ := gI_bd h
      exact (hk _ _ h).2 _ _ _ _ _ _ rfl
  · rintro x1 x2 x3 x4 x5 M rfl
    rw [sk_fetches_156] at h
    obtain ⟨g3, h⟩ := gI_gd h
    rcases gI_or h with h | h
    · obtain ⟨r171, e171, h⟩ := gI_bd h
      obtain ⟨r178, e178, h⟩ := gI_bd h
      rcases gI_or h with h | h
      · exact (hk _ _ h).2 _ _ _ _ _ _ rfl
      · obtain ⟨r191, e191, h⟩ := gI_bd h
        obtain ⟨r198, e198, h⟩ := gI_bd h
        obtain ⟨m201, e201, h⟩ := gI_bd h
        exact (hk _ _ h).2 _ _ _ _ _ _ rfl
    · rw [← Option.some.inj h]
      exact (Or.inr rfl)
theorem bo_fetches_110 {M : gM} {x1 x2 x3 x4 : Int} {b : Int × gM} (h : F_fetches_110 M x1 x2 x3 x4 = some b) : b.1 = 0 ∨ b.1 = 1 :=
  (bop_fetches _ _ h).1 _ _ _ _ _ rfl
theorem bo_fetches_156 {M : gM} {x1 x2 x3 x4 x5 : Int} {b : Int × gM} (h : F_fetches_156 M x1 x2 x3 x4 x5 = some b) : b.1 = 0 ∨ b.1 = 1 :=
  (bop_fetches _ _ h).2 _ _ _ _ _ _ rfl
theorem bo_fetches {M : gM} {a1 : Int} {b : Int × gM} (h : F_fetches M a1 = some b) : b.1 = 0 ∨ b.1 = 1 := by
  rw [eq_fetches] at h
  obtain ⟨r1, e1, h⟩ := gI_bd h
  obtain ⟨r9, e9, h⟩ := gI_bd h
  obtain ⟨r12, e12, h⟩ := gI_bd h
  rcases gI_or h with h | h
  · obtain ⟨p24, e24, h⟩ := gI_bd h
    rw [← Option.some.inj h]
    exact (bo_wrongAt (b := p24) e24)
  · rcases gI_or h with h | h
    · obtain ⟨p58, e58, h⟩ := gI_bd h
      rcases gI_or h with h | h
      · rw [← Option.some.inj h]
        exact (Or.inl rfl)
      · obtain ⟨g7, h⟩ := gI_gd h
        obtain ⟨r79, e79, h⟩ := gI_bd h
        rcases gI_or h with h | h
        · obtain ⟨r96, e96, h⟩ := gI_bd h
          rcases gI_or h with h | h
          · exact bo_fetches_110 h
          · obtain ⟨p106, e106, h⟩ := gI_bd h
            rw [← Option.some.inj h]
            exact (bo_wrongAt (b := p106) e106)
        · exact bo_fetches_110 h
    · obtain ⟨p42, e42, h⟩ := gI_bd h
      rw [← Option.some.inj h]
      exact (bo_wrongAt (b := p42) e42)
theorem okp_fetches {sh : gS} : ∀ (s : Nat × List Int × gM) (b : Int × gM), gWh (st_fetches) s = some b → (∀ (x1 x2 x3 x4 : Int) (M : gM), s = (0, [x1, x2, x3, x4], M) → gOK sh M → gA (gr 4 90) yX12_fetches cX12_fetches 6 (some (.boolean)) (gPq sh (some (0, b.1)) b.2) (0, 0) 110 [(4, 711), (0, x1), (0, x2), (0, x3), (0, x4), (9, 0)] [] sh M) ∧ (∀ (x1 x2 x3 x4 x5 : Int) (M : gM), s = (1, [x1, x2, x3, x4, x5], M) → gOK sh M → gA (gr 4 90) yX12_fetches cX12_fetches 6 (some (.boolean)) (gPq sh (some (0, b.1)) b.2) (0, 0) 156 [(4, 711), (0, x1), (0, x2), (0, x3), (0, x4), (0, x5)] [] sh M) := by
  refine gWh_ind (fun k hk s b h => ⟨?_, ?_⟩)
  · rintro x1 x2 x3 x4 M rfl hOK
    rw [sk_fetches_110] at h
    refine g_aload_n (q0 := 111) (j := 0) rfl dX12_fetches_110 rfl ?_
    refine g_getp (q0 := 114) (b := 718) rfl ff_X12_28 dX12_fetches_111 rfl hOK (by decide) (sh_711 hOK) rfl (by decide) ?_
    refine g_bipush (q0 := 116) rfl dX12_fetches_114 (k := ?_)
    refine g_iald (q0 := 117) rfl dX12_fetches_116 (sh_718 hOK) (by decide) (by decide) ?_
    refine g_aload_n (q0 := 118) (j := 0) rfl dX12_fetches_117 rfl ?_
    refine g_bipush (q0 := 120) rfl dX12_fetches_118 (k := ?_)
    refine g_aload_n (q0 := 121) (j := 0) rfl dX12_fetches_120 rfl ?_
    refine g_getf (q0 := 124) (t := 0) (fi := 23) rfl rfl ff_X12_278 dX12_fetches_121 rfl (sh_711 hOK) ?_
    obtain ⟨r124, e124, h⟩ := gI_bd h
    refine g_callVq1 (as := [_, _]) (rest := [_]) mt_X12_filesBelow mi_X12_filesBelow se_X12_filesBelow ml_X12_175 dX12_fetches_124 (q0 := 127) rfl rfl (sh_711 hOK) rfl rfl (ok_filesBelow hOK e124) rfl ⟨by decide, by decide⟩ (Nat.le_of_ble_eq_true rfl) ⟨Nat.zero_le _, Nat.zero_le _⟩ ?_
    refine g_isubw (q0 := 128) rfl dX12_fetches_127 ?_
    refine g_iload (q0 := 130) (j := 4) rfl dX12_fetches_128 rfl ?_
    refine g_iaddw (q0 := 131) rfl dX12_fetches_130 ?_
    refine g_bipush (q0 := 133) rfl dX12_fetches_131 (k := ?_)
    refine g_icmp_le (q0 := 136) (tgt := 143) rfl dX12_fetches_133 (by decide) (fun h133 => ?_) (fun h133 => ?_)
    · replace h := gI_neg (Int.not_lt.mpr h133) h
      refine g_aload_n (q0 := 144) (j := 0) rfl dX12_fetches_143 rfl ?_
      refine g_bipush (q0 := 146) rfl dX12_fetches_144 (k := ?_)
      refine g_aload_n (q0 := 147) (j := 0) rfl dX12_fetches_146 rfl ?_
      refine g_getf (q0 := 150) (t := 0) (fi := 23) rfl rfl ff_X12_278 dX12_fetches_147 rfl (sh_711 hOK) ?_
      obtain ⟨m150, e150, h⟩ := gI_bd h
      refine g_callVq0 (as := [_, _]) (rest := []) mt_X12_takes mi_X12_takes se_X12_takes ml_X12_313 dX12_fetches_150 (q0 := 153) rfl rfl (sh_711 hOK) rfl rfl (ok_takes hOK e150) rfl ⟨by decide, by decide⟩ (Nat.le_of_ble_eq_true rfl) ⟨Nat.zero_le _, Nat.zero_le _⟩ ?_
      have hOK1 : gOK sh m150 := gOK_fr hOK (fr_takes (b := m150) e150) (by first | decide | (intro a ha; simp only [List.mem_cons, List.not_mem_nil, or_false] at ha; omega)) (by decide)
      refine g_iconst (q0 := 154) rfl dX12_fetches_153 (k := ?_)
      refine g_istore (q0 := 156) (j := 5) (lv2 := [_, _, _, _, _, _]) rfl dX12_fetches_154 (by decide) rfl rfl ?_
      exact (hk _ _ h).2 _ _ _ _ _ _ rfl hOK1
    · replace h := gI_pos h133 h
      refine g_aload_n (q0 := 137) (j := 0) rfl dX12_fetches_136 rfl ?_
      refine g_iconst (q0 := 138) rfl dX12_fetches_137 (k := ?_)
      refine g_iload_n (q0 := 139) (j := 1) rfl dX12_fetches_138 rfl ?_
      obtain ⟨p139, e139, h⟩ := gI_bd h
      refine g_callVq1 (as := [_, _]) (rest := []) mt_X12_wrongAt mi_X12_wrongAt se_X12_wrongAt ml_X12_269 dX12_fetches_139 (q0 := 142) rfl rfl (sh_711 hOK) rfl rfl (ok_wrongAt hOK e139) rfl ⟨by decide, by decide⟩ (Nat.le_of_ble_eq_true rfl) ⟨Nat.zero_le _, Nat.zero_le _⟩ ?_
      have hOK2 : gOK sh p139.2 := gOK_fr hOK (fr_wrongAt (b := p139) e139) (by first | decide | (intro a ha; simp only [List.mem_cons, List.not_mem_nil, or_false] at ha; omega)) (by decide)
      rw [← Option.some.inj h]
      refine g_zreturn dX12_fetches_142 rfl (gnz (bo_wrongAt (b := p139) e139)) ⟨Nat.zero_le _, Nat.zero_le _⟩ ?_
      exact ⟨rfl, rfl, rfl⟩
  · rintro x1 x2 x3 x4 x5 M rfl hOK
    rw [sk_fetches_156] at h
    refine g_iload (q0 := 158) (j := 5) rfl dX12_fetches_156 rfl ?_
    refine g_aload_n (q0 := 159) (j := 0) rfl dX12_fetches_158 rfl ?_
    refine g_getp (q0 := 162) (b := 718) rfl ff_X12_28 dX12_fetches_159 rfl hOK (by decide) (sh_711 hOK) rfl (by decide) ?_
    refine g_iload_n (q0 := 163) (j := 3) rfl dX12_fetches_162 rfl ?_
    obtain ⟨g3, h⟩ := gI_gd h
    refine g_iald (q0 := 164) rfl dX12_fetches_163 (sh_718 hOK) g3.1 g3.2 ?_
    refine g_icmp_ge (q0 := 167) (tgt := 210) rfl dX12_fetches_164 (by decide) (fun h164 => ?_) (fun h164 => ?_)
    · replace h := gI_neg (Int.not_lt.mpr h164) h
      refine g_iconst (q0 := 211) rfl dX12_fetches_210 (k := ?_)
      rw [← Option.some.inj h]
      refine g_zreturn dX12_fetches_211 rfl (gnz (Or.inr rfl)) ⟨Nat.zero_le _, Nat.zero_le _⟩ ?_
      exact ⟨rfl, rfl, rfl⟩
    · replace h := gI_pos h164 h
      refine g_aload_n (q0 := 168) (j := 0) rfl dX12_fetches_167 rfl ?_
      refine g_iload_n (q0 := 169) (j := 3) rfl dX12_fetches_168 rfl ?_
      refine g_iload (q0 := 171) (j := 5) rfl dX12_fetches_169 rfl ?_
      obtain ⟨r171, e171, h⟩ := gI_bd h
      refine g_callVq1 (as := [_, _]) (rest := []) mt_X12_pathAt mi_X12_pathAt se_X12_pathAt ml_X12_162 dX12_fetches_171 (q0 := 174) rfl rfl (sh_711 hOK) rfl rfl (ok_pathAt hOK e171) rfl ⟨by decide, by decide⟩ (Nat.le_of_ble_eq_true rfl) ⟨Nat.zero_le _, Nat.zero_le _⟩ ?_
      refine g_aload_n (q0 := 175) (j := 0) rfl dX12_fetches_174 rfl ?_
      refine g_getf (q0 := 178) (t := 0) (fi := 23) rfl rfl ff_X12_278 dX12_fetches_175 rfl (sh_711 hOK) ?_
      obtain ⟨r178, e178, h⟩ := gI_bd h
      refine g_callSq1 (as := [_, _]) (rest := []) mt_X12_isAtOrBelow ms_X12_isAtOrBelow ml_X12_172 dX12_fetches_178 (q0 := 181) rfl rfl (ok_isAtOrBelow hOK e178) rfl ⟨by decide, by decide⟩ (Nat.le_of_ble_eq_true rfl) ⟨Nat.zero_le _, Nat.zero_le _⟩ ?_
      refine g_if_eq (q0 := 184) (tgt := 204) rfl dX12_fetches_181 (by decide) (fun h181 => ?_) (fun h181 => ?_)
      · replace h := gI_pos h181 h
        refine g_iincw (q0 := 207) (lv2 := [_, _, _, _, _, _]) rfl dX12_fetches_204 rfl (by decide) rfl rfl ?_
        refine g_goto (tgt := 156) dX12_fetches_207 (by decide) ?_
        exact (hk _ _ h).2 _ _ _ _ _ _ rfl hOK
      · replace h := gI_neg h181 h
        refine g_aload_n (q0 := 185) (j := 0) rfl dX12_fetches_184 rfl ?_
        refine g_bipush (q0 := 187) rfl dX12_fetches_185 (k := ?_)
        refine g_aload_n (q0 := 188) (j := 0) rfl dX12_fetches_187 rfl ?_
        refine g_iload_n (q0 := 189) (j := 3) rfl dX12_fetches_188 rfl ?_
        refine g_iload (q0 := 191) (j := 5) rfl dX12_fetches_189 rfl ?_
        obtain ⟨r191, e191, h⟩ := gI_bd h
        refine g_callVq1 (as := [_, _]) (rest := [_, _]) mt_X12_pathAt mi_X12_pathAt se_X12_pathAt ml_X12_162 dX12_fetches_191 (q0 := 194) rfl rfl (sh_711 hOK) rfl rfl (ok_pathAt hOK e191) rfl ⟨by decide, by decide⟩ (Nat.le_of_ble_eq_true rfl) ⟨Nat.zero_le _, Nat.zero_le _⟩ ?_
        refine g_aload_n (q0 := 195) (j := 0) rfl dX12_fetches_194 rfl ?_
        refine g_iload_n (q0 := 196) (j := 3) rfl dX12_fetches_195 rfl ?_
        refine g_iload (q0 := 198) (j := 5) rfl dX12_fetches_196 rfl ?_
        obtain ⟨r198, e198, h⟩ := gI_bd h
        refine g_callVq1 (as := [_, _]) (rest := [_, _, _]) mt_X12_contentAt mi_X12_contentAt se_X12_contentAt ml_X12_169 dX12_fetches_198 (q0 := 201) rfl rfl (sh_711 hOK) rfl rfl (ok_contentAt hOK e198) rfl ⟨by decide, by decide⟩ (Nat.le_of_ble_eq_true rfl) ⟨Nat.zero_le _, Nat.zero_le _⟩ ?_
        obtain ⟨m201, e201, h⟩ := gI_bd h
        refine g_callVq0 (as := [_, _, _]) (rest := []) mt_X12_puts mi_X12_puts se_X12_puts ml_X12_309 dX12_fetches_201 (q0 := 204) rfl rfl (sh_711 hOK) rfl rfl (ok_puts hOK e201) rfl ⟨by decide, by decide⟩ (Nat.le_of_ble_eq_true rfl) ⟨Nat.zero_le _, Nat.zero_le _⟩ ?_
        have hOK4 : gOK sh m201 := gOK_fr hOK (fr_puts (b := m201) e201) (by first | decide | (intro a ha; simp only [List.mem_cons, List.not_mem_nil, or_false] at ha; omega)) (by decide)
        refine g_iincw (q0 := 207) (lv2 := [_, _, _, _, _, _]) rfl dX12_fetches_204 rfl (by decide) rfl rfl ?_
        refine g_goto (tgt := 156) dX12_fetches_207 (by decide) ?_
        exact (hk _ _ h).2 _ _ _ _ _ _ rfl hOK4
theorem ok_fetches_110 {sh : gS} {M : gM} {x1 x2 x3 x4 : Int} {b : Int × gM} (hOK : gOK sh M) (h : F_fetches_110 M x1 x2 x3 x4 = some b) : gA (gr 4 90) yX12_fetches cX12_fetches 6 (some (.boolean)) (gPq sh (some (0, b.1)) b.2) (0, 0) 110 [(4, 711), (0, x1), (0, x2), (0, x3), (0, x4), (9, 0)] [] sh M :=
  (okp_fetches _ _ h).1 _ _ _ _ _ rfl hOK
theorem ok_fetches_156 {sh : gS} {M : gM} {x1 x2 x3 x4 x5 : Int} {b : Int × gM} (hOK : gOK sh M) (h : F_fetches_156 M x1 x2 x3 x4 x5 = some b) : gA (gr 4 90) yX12_fetches cX12_fetches 6 (some (.boolean)) (gPq sh (some (0, b.1)) b.2) (0, 0) 156 [(4, 711), (0, x1), (0, x2), (0, x3), (0, x4), (0, x5)] [] sh M :=
  (okp_fetches _ _ h).2 _ _ _ _ _ _ rfl hOK
theorem ok_fetches {sh : gS} {M : gM} {a1 : Int} {b : Int × gM} (hOK : gOK sh M) (h : F_fetches M a1 = some b) : gC (gr 4 90) yX12_fetches cX12_fetches 6 (some (.boolean)) [(4, 711), (0, a1)] sh M (gPq sh (some (0, b.1)) b.2) := by
  rw [eq_fetches] at h
  refine gC_ofA (lv := [_, _, _, _, _, _]) (by decide +kernel) (Nat.le_of_ble_eq_true rfl) rfl (fun hMw hav => ?_)
  refine g_aload_n (q0 := 1) (j := 0) rfl dX12_fetches_0 rfl ?_
  obtain ⟨r1, e1, h⟩ := gI_bd h
  refine g_callVq1 (as := []) (rest := []) mt_X12_here mi_X12_here se_X12_here ml_X12_265 dX12_fetches_1 (q0 := 4) rfl rfl (sh_711 hOK) rfl rfl (ok_here hOK e1) rfl ⟨by decide, by decide⟩ (Nat.le_of_ble_eq_true rfl) ⟨Nat.zero_le _, Nat.zero_le _⟩ ?_
  refine g_bipush (q0 := 6) rfl dX12_fetches_4 (k := ?_)
  refine g_isubw (q0 := 7) rfl dX12_fetches_6 ?_
  refine g_istore_n (q0 := 8) (j := 2) (lv2 := [_, _, _, _, _, _]) rfl dX12_fetches_7 (by decide) rfl rfl ?_
  refine g_aload_n (q0 := 9) (j := 0) rfl dX12_fetches_8 rfl ?_
  obtain ⟨r9, e9, h⟩ := gI_bd h
  refine g_callVq1 (as := []) (rest := []) mt_X12_here mi_X12_here se_X12_here ml_X12_265 dX12_fetches_9 (q0 := 12) rfl rfl (sh_711 hOK) rfl rfl (ok_here hOK e9) rfl ⟨by decide, by decide⟩ (Nat.le_of_ble_eq_true rfl) ⟨Nat.zero_le _, Nat.zero_le _⟩ ?_
  obtain ⟨r12, e12, h⟩ := gI_bd h
  refine g_callSq1 (as := [_]) (rest := []) mt_X12_isDigit ms_X12_isDigit ml_X12_272 dX12_fetches_12 (q0 := 15) rfl rfl (ok_isDigit hOK e12) rfl ⟨by decide, by decide⟩ (Nat.le_of_ble_eq_true rfl) ⟨Nat.zero_le _, Nat.zero_le _⟩ ?_
  refine g_if_ne (q0 := 18) (tgt := 28) rfl dX12_fetches_15 (by decide) (fun h15 => ?_) (fun h15 => ?_)
  · replace h := gI_neg h15 h
    refine g_iload_n (q0 := 29) (j := 2) rfl dX12_fetches_28 rfl ?_
    refine g_aload_n (q0 := 30) (j := 0) rfl dX12_fetches_29 rfl ?_
    refine g_getf (q0 := 33) (t := 0) (fi := 12) rfl rfl ff_X12_186 dX12_fetches_30 rfl (sh_711 hOK) ?_
    refine g_icmp_lt (q0 := 36) (tgt := 46) rfl dX12_fetches_33 (by decide) (fun h33 => ?_) (fun h33 => ?_)
    · replace h := gI_pos h33 h
      refine g_aload_n (q0 := 47) (j := 0) rfl dX12_fetches_46 rfl ?_
      refine g_aload_n (q0 := 48) (j := 0) rfl dX12_fetches_47 rfl ?_
      refine g_getf (q0 := 51) (t := 0) (fi := 19) rfl rfl ff_X12_256 dX12_fetches_48 rfl (sh_711 hOK) ?_
      refine g_iconst (q0 := 52) rfl dX12_fetches_51 (k := ?_)
      refine g_iaddw (q0 := 53) rfl dX12_fetches_52 ?_
      refine g_put (q0 := 56) (t := 0) (fi := 19) rfl rfl ff_X12_256 dX12_fetches_53 rfl (sh_711 hOK) rfl (fun _ => ⟨rfl, rfl⟩) ?_
      have hOK5 : gOK sh (gU M 711 19 (gw32 ((M 711 19) + (1 : Int)))) := gOK_o hOK (sh_711 hOK) (f := 19) rfl rfl
      refine g_aload_n (q0 := 57) (j := 0) rfl dX12_fetches_56 rfl ?_
      refine g_iconst (q0 := 58) rfl dX12_fetches_57 (k := ?_)
      obtain ⟨p58, e58, h⟩ := gI_bd h
      refine g_callVq1 (as := [_]) (rest := []) mt_X12_readsPath mi_X12_readsPath se_X12_readsPath ml_X12_294 dX12_fetches_58 (q0 := 61) rfl rfl (sh_711 hOK5) rfl rfl (ok_readsPath hOK5 e58) rfl ⟨by decide, by decide⟩ (Nat.le_of_ble_eq_true rfl) ⟨Nat.zero_le _, Nat.zero_le _⟩ ?_
      have hOK6 : gOK sh p58.2 := gOK_fr hOK5 (fr_readsPath (b := p58) e58) (by first | decide | (intro a ha; simp only [List.mem_cons, List.not_mem_nil, or_false] at ha; omega)) (by decide)
      refine g_if_ne (q0 := 64) (tgt := 66) rfl dX12_fetches_61 (by decide) (fun h61 => ?_) (fun h61 => ?_)
      · replace h := gI_neg h61 h
        refine g_aload_n (q0 := 67) (j := 0) rfl dX12_fetches_66 rfl ?_
        refine g_getp (q0 := 70) (b := 721) rfl ff_X12_37 dX12_fetches_67 rfl hOK6 (by decide) (sh_711 hOK6) rfl (by decide) ?_
        refine g_iload_n (q0 := 71) (j := 2) rfl dX12_fetches_70 rfl ?_
        obtain ⟨g7, h⟩ := gI_gd h
        refine g_iald (q0 := 72) rfl dX12_fetches_71 (sh_721 hOK6) g7.1 g7.2 ?_
        refine g_istore_n (q0 := 73) (j := 3) (lv2 := [_, _, _, _, _, _]) rfl dX12_fetches_72 (by decide) rfl rfl ?_
        refine g_aload_n (q0 := 74) (j := 0) rfl dX12_fetches_73 rfl ?_
        refine g_iload_n (q0 := 75) (j := 3) rfl dX12_fetches_74 rfl ?_
        refine g_aload_n (q0 := 76) (j := 0) rfl dX12_fetches_75 rfl ?_
        refine g_getf (q0 := 79) (t := 0) (fi := 23) rfl rfl ff_X12_278 dX12_fetches_76 rfl (sh_711 hOK6) ?_
        obtain ⟨r79, e79, h⟩ := gI_bd h
        refine g_callVq1 (as := [_, _]) (rest := []) mt_X12_filesBelow mi_X12_filesBelow se_X12_filesBelow ml_X12_175 dX12_fetches_79 (q0 := 82) rfl rfl (sh_711 hOK6) rfl rfl (ok_filesBelow hOK6 e79) rfl ⟨by decide, by decide⟩ (Nat.le_of_ble_eq_true rfl) ⟨Nat.zero_le _, Nat.zero_le _⟩ ?_
        refine g_istore (q0 := 84) (j := 4) (lv2 := [_, _, _, _, _, _]) rfl dX12_fetches_82 (by decide) rfl rfl ?_
        refine g_iload (q0 := 86) (j := 4) rfl dX12_fetches_84 rfl ?_
        refine g_if_le (q0 := 89) (tgt := 110) rfl dX12_fetches_86 (by decide) (fun h86 => ?_) (fun h86 => ?_)
        · replace h := gI_neg (Int.not_lt.mpr h86) h
          exact ok_fetches_110 hOK6 h
        · replace h := gI_pos h86 h
          refine g_aload_n (q0 := 90) (j := 0) rfl dX12_fetches_89 rfl ?_
          refine g_bipush (q0 := 92) rfl dX12_fetches_90 (k := ?_)
          refine g_aload_n (q0 := 93) (j := 0) rfl dX12_fetches_92 rfl ?_
          refine g_getf (q0 := 96) (t := 0) (fi := 23) rfl rfl ff_X12_278 dX12_fetches_93 rfl (sh_711 hOK6) ?_
          obtain ⟨r96, e96, h⟩ := gI_bd h
          refine g_callVq1 (as := [_, _]) (rest := []) mt_X12_isBarred mi_X12_isBarred se_X12_isBarred ml_X12_306 dX12_fetches_96 (q0 := 99) rfl rfl (sh_711 hOK6) rfl rfl (ok_isBarred hOK6 e96) rfl ⟨by decide, by decide⟩ (Nat.le_of_ble_eq_true rfl) ⟨Nat.zero_le _, Nat.zero_le _⟩ ?_
          refine g_if_eq (q0 := 102) (tgt := 110) rfl dX12_fetches_99 (by decide) (fun h99 => ?_) (fun h99 => ?_)
          · replace h := gI_pos h99 h
            exact ok_fetches_110 hOK6 h
          · replace h := gI_neg h99 h
            refine g_aload_n (q0 := 103) (j := 0) rfl dX12_fetches_102 rfl ?_
            refine g_bipush (q0 := 105) rfl dX12_fetches_103 (k := ?_)
            refine g_iload_n (q0 := 106) (j := 1) rfl dX12_fetches_105 rfl ?_
            obtain ⟨p106, e106, h⟩ := gI_bd h
            refine g_callVq1 (as := [_, _]) (rest := []) mt_X12_wrongAt mi_X12_wrongAt se_X12_wrongAt ml_X12_269 dX12_fetches_106 (q0 := 109) rfl rfl (sh_711 hOK6) rfl rfl (ok_wrongAt hOK6 e106) rfl ⟨by decide, by decide⟩ (Nat.le_of_ble_eq_true rfl) ⟨Nat.zero_le _, Nat.zero_le _⟩ ?_
            have hOK8 : gOK sh p106.2 := gOK_fr hOK6 (fr_wrongAt (b := p106) e106) (by first | decide | (intro a ha; simp only [List.mem_cons, List.not_mem_nil, or_false] at ha; omega)) (by decide)
            rw [← Option.some.inj h]
            refine g_zreturn dX12_fetches_109 rfl (gnz (bo_wrongAt (b := p106) e106)) ⟨Nat.zero_le _, Nat.zero_le _⟩ ?_
            exact ⟨rfl, rfl, rfl⟩
      · replace h := gI_pos h61 h
        refine g_iconst (q0 := 65) rfl dX12_fetches_64 (k := ?_)
        rw [← Option.some.inj h]
        refine g_zreturn dX12_fetches_65 rfl (gnz (Or.inl rfl)) ⟨Nat.zero_le _, Nat.zero_le _⟩ ?_
        exact ⟨rfl, rfl, rfl⟩
    · replace h := gI_neg (Int.not_lt.mpr h33) h
      refine g_aload_n (q0 := 37) (j := 0) rfl dX12_fetches_36 rfl ?_
      refine g_iconst (q0 := 38) rfl dX12_fetches_37 (k := ?_)
      refine g_aload_n (q0 := 39) (j := 0) rfl dX12_fetches_38 rfl ?_
      refine g_getf (q0 := 42) (t := 0) (fi := 19) rfl rfl ff_X12_256 dX12_fetches_39 rfl (sh_711 hOK) ?_
      obtain ⟨p42, e42, h⟩ := gI_bd h
      refine g_callVq1 (as := [_, _]) (rest := []) mt_X12_wrongAt mi_X12_wrongAt se_X12_wrongAt ml_X12_269 dX12_fetches_42 (q0 := 45) rfl rfl (sh_711 hOK) rfl rfl (ok_wrongAt hOK e42) rfl ⟨by decide, by decide⟩ (Nat.le_of_ble_eq_true rfl) ⟨Nat.zero_le _, Nat.zero_le _⟩ ?_
      have hOK9 : gOK sh p42.2 := gOK_fr hOK (fr_wrongAt (b := p42) e42) (by first | decide | (intro a ha; simp only [List.mem_cons, List.not_mem_nil, or_false] at ha; omega)) (by decide)
      rw [← Option.some.inj h]
      refine g_zreturn dX12_fetches_45 rfl (gnz (bo_wrongAt (b := p42) e42)) ⟨Nat.zero_le _, Nat.zero_le _⟩ ?_
      exact ⟨rfl, rfl, rfl⟩
  · replace h := gI_pos h15 h
    refine g_aload_n (q0 := 19) (j := 0) rfl dX12_fetches_18 rfl ?_
    refine g_iconst (q0 := 20) rfl dX12_fetches_19 (k := ?_)
    refine g_aload_n (q0 := 21) (j := 0) rfl dX12_fetches_20 rfl ?_
    refine g_getf (q0 := 24) (t := 0) (fi := 19) rfl rfl ff_X12_256 dX12_fetches_21 rfl (sh_711 hOK) ?_
    obtain ⟨p24, e24, h⟩ := gI_bd h
    refine g_callVq1 (as := [_, _]) (rest := []) mt_X12_wrongAt mi_X12_wrongAt se_X12_wrongAt ml_X12_269 dX12_fetches_24 (q0 := 27) rfl rfl (sh_711 hOK) rfl rfl (ok_wrongAt hOK e24) rfl ⟨by decide, by decide⟩ (Nat.le_of_ble_eq_true rfl) ⟨Nat.zero_le _, Nat.zero_le _⟩ ?_
    have hOK10 : gOK sh p24.2 := gOK_fr hOK (fr_wrongAt (b := p24) e24) (by first | decide | (intro a ha; simp only [List.mem_cons, List.not_mem_nil, or_false] at ha; omega)) (by decide)
    rw [← Option.some.inj h]
    refine g_zreturn dX12_fetches_27 rfl (gnz (bo_wrongAt (b := p24) e24)) ⟨Nat.zero_le _, Nat.zero_le _⟩ ?_
    exact ⟨rfl, rfl, rfl⟩
-- ==== readsEdit
theorem dX12_readsEdit_0 : decode cX12_readsEdit 0 = .ok (.aload_n 0, 1) := by decide +kernel
theorem dX12_readsEdit_1 : decode cX12_readsEdit 1 = .ok (.getfield 256, 3) := by decide +kernel
theorem dX12_readsEdit_4 : decode cX12_readsEdit 4 = .ok (.istore_n 1, 1) := by decide +kernel
theorem dX12_readsEdit_5 : decode cX12_readsEdit 5 = .ok (.aload_n 0, 1) := by decide +kernel
theorem dX12_readsEdit_6 : decode cX12_readsEdit 6 = .ok (.invokevirtual 265, 3) := by decide +kernel
theorem dX12_readsEdit_9 : decode cX12_readsEdit 9 = .ok (.istore_n 2, 1) := by decide +kernel
theorem dX12_readsEdit_10 : decode cX12_readsEdit 10 = .ok (.iload_n 2, 1) := by decide +kernel
theorem dX12_readsEdit_11 : decode cX12_readsEdit 11 = .ok (.bipush 43, 2) := by decide +kernel
theorem dX12_readsEdit_13 : decode cX12_readsEdit 13 = .ok (.if_icmp .eq 31, 3) := by decide +kernel
theorem dX12_readsEdit_16 : decode cX12_readsEdit 16 = .ok (.iload_n 2, 1) := by decide +kernel
theorem dX12_readsEdit_17 : decode cX12_readsEdit 17 = .ok (.bipush 45, 2) := by decide +kernel
theorem dX12_readsEdit_19 : decode cX12_readsEdit 19 = .ok (.if_icmp .eq 25, 3) := by decide +kernel
theorem dX12_readsEdit_22 : decode cX12_readsEdit 22 = .ok (.iload_n 2, 1) := by decide +kernel
theorem dX12_readsEdit_23 : decode cX12_readsEdit 23 = .ok (.bipush 42, 2) := by decide +kernel
theorem dX12_readsEdit_25 : decode cX12_readsEdit 25 = .ok (.if_icmp .eq 19, 3) := by decide +kernel
theorem dX12_readsEdit_28 : decode cX12_readsEdit 28 = .ok (.iload_n 2, 1) := by decide +kernel
theorem dX12_readsEdit_29 : decode cX12_readsEdit 29 = .ok (.bipush 94, 2) := by decide +kernel
theorem dX12_readsEdit_31 : decode cX12_readsEdit 31 = .ok (.if_icmp .eq 13, 3) := by decide +kernel
theorem dX12_readsEdit_34 : decode cX12_readsEdit 34 = .ok (.aload_n 0, 1) := by decide +kernel
theorem dX12_readsEdit_35 : decode cX12_readsEdit 35 = .ok (.iconst 1, 1) := by decide +kernel
theorem dX12_readsEdit_36 : decode cX12_readsEdit 36 = .ok (.aload_n 0, 1) := by decide +kernel
theorem dX12_readsEdit_37 : decode cX12_readsEdit 37 = .ok (.getfield 256, 3) := by decide +kernel
theorem dX12_readsEdit_40 : decode cX12_readsEdit 40 = .ok (.invokevirtual 269, 3) := by decide +kernel
theorem dX12_readsEdit_43 : decode cX12_readsEdit 43 = .ok (.ireturn, 1) := by decide +kernel
theorem dX12_readsEdit_44 : decode cX12_readsEdit 44 = .ok (.aload_n 0, 1) := by decide +kernel
theorem dX12_readsEdit_45 : decode cX12_readsEdit 45 = .ok (.aload_n 0, 1) := by decide +kernel
theorem dX12_readsEdit_46 : decode cX12_readsEdit 46 = .ok (.getfield 256, 3) := by decide +kernel
theorem dX12_readsEdit_49 : decode cX12_readsEdit 49 = .ok (.iconst 1, 1) := by decide +kernel
theorem dX12_readsEdit_50 : decode cX12_readsEdit 50 = .ok (.iadd, 1) := by decide +kernel
theorem dX12_readsEdit_51 : decode cX12_readsEdit 51 = .ok (.putfield 256, 3) := by decide +kernel
theorem dX12_readsEdit_54 : decode cX12_readsEdit 54 = .ok (.iload_n 2, 1) := by decide +kernel
theorem dX12_readsEdit_55 : decode cX12_readsEdit 55 = .ok (.bipush 43, 2) := by decide +kernel
theorem dX12_readsEdit_57 : decode cX12_readsEdit 57 = .ok (.if_icmp .ne 11, 3) := by decide +kernel
theorem dX12_readsEdit_60 : decode cX12_readsEdit 60 = .ok (.aload_n 0, 1) := by decide +kernel
theorem dX12_readsEdit_61 : decode cX12_readsEdit 61 = .ok (.iload_n 1, 1) := by decide +kernel
theorem dX12_readsEdit_62 : decode cX12_readsEdit 62 = .ok (.invokevirtual 323, 3) := by decide +kernel
theorem dX12_readsEdit_65 : decode cX12_readsEdit 65 = .ok (.goto 36, 3) := by decide +kernel
theorem dX12_readsEdit_68 : decode cX12_readsEdit 68 = .ok (.iload_n 2, 1) := by decide +kernel
theorem dX12_readsEdit_69 : decode cX12_readsEdit 69 = .ok (.bipush 45, 2) := by decide +kernel
theorem dX12_readsEdit_71 : decode cX12_readsEdit 71 = .ok (.if_icmp .ne 11, 3) := by decide +kernel
theorem dX12_readsEdit_74 : decode cX12_readsEdit 74 = .ok (.aload_n 0, 1) := by decide +kernel
theorem dX12_readsEdit_75 : decode cX12_readsEdit 75 = .ok (.iload_n 1, 1) := by decide +kernel
theorem dX12_readsEdit_76 : decode cX12_readsEdit 76 = .ok (.invokevirtual 326, 3) := by decide +kernel
theorem dX12_readsEdit_79 : decode cX12_readsEdit 79 = .ok (.goto 22, 3) := by decide +kernel
theorem dX12_readsEdit_82 : decode cX12_readsEdit 82 = .ok (.iload_n 2, 1) := by decide +kernel
theorem dX12_readsEdit_83 : decode cX12_readsEdit 83 = .ok (.bipush 42, 2) := by decide +kernel
theorem dX12_readsEdit_85 : decode cX12_readsEdit 85 = .ok (.if_icmp .ne 11, 3) := by decide +kernel
theorem dX12_readsEdit_88 : decode cX12_readsEdit 88 = .ok (.aload_n 0, 1) := by decide +kernel
theorem dX12_readsEdit_89 : decode cX12_readsEdit 89 = .ok (.iload_n 1, 1) := by decide +kernel
theorem dX12_readsEdit_90 : decode cX12_readsEdit 90 = .ok (.invokevirtual 329, 3) := by decide +kernel
theorem dX12_readsEdit_93 : decode cX12_readsEdit 93 = .ok (.goto 8, 3) := by decide +kernel
theorem dX12_readsEdit_96 : decode cX12_readsEdit 96 = .ok (.aload_n 0, 1) := by decide +kernel
theorem dX12_readsEdit_97 : decode cX12_readsEdit 97 = .ok (.iload_n 1, 1) := by decide +kernel
theorem dX12_readsEdit_98 : decode cX12_readsEdit 98 = .ok (.invokevirtual 332, 3) := by decide +kernel
theorem dX12_readsEdit_101 : decode cX12_readsEdit 101 = .ok (.ireturn, 1) := by decide +kernel
noncomputable def st_readsEdit : Nat × List Int × gM → Option ((Nat × List Int × gM) ⊕ (Int × gM))
  | (0, [x1, x2], M) => (if x2 = 43 then
      (Option.bind (F_setsFile (gU M 711 19 (gw32 ((M 711 19) + (1 : Int)))) x1) (fun p62 =>
        some (.inr (p62.1, p62.2))))
    else
      (if x2 = 45 then
        (Option.bind (F_takesAway (gU M 711 19 (gw32 ((M 711 19) + (1 : Int)))) x1) (fun p76 =>
          some (.inr (p76.1, p76.2))))
      else
        (if x2 = 42 then
          (Option.bind (F_movesThere (gU M 711 19 (gw32 ((M 711 19) + (1 : Int)))) x1) (fun p90 =>
            some (.inr (p90.1, p90.2))))
        else
          (Option.bind (F_fetches (gU M 711 19 (gw32 ((M 711 19) + (1 : Int)))) x1) (fun p98 =>
            some (.inr (p98.1, p98.2)))))))
  | _ => none
theorem sk_readsEdit_44 (k : Nat × List Int × gM → Option (Int × gM)) (M : gM) (x1 x2 : Int) : gWk k (st_readsEdit (0, [x1, x2], M)) = (if x2 = 43 then
    (Option.bind (F_setsFile (gU M 711 19 (gw32 ((M 711 19) + (1 : Int)))) x1) (fun p62 =>
      some (p62.1, p62.2)))
  else
    (if x2 = 45 then
      (Option.bind (F_takesAway (gU M 711 19 (gw32 ((M 711 19) + (1 : Int)))) x1) (fun p76 =>
        some (p76.1, p76.2)))
    else
      (if x2 = 42 then
        (Option.bind (F_movesThere (gU M 711 19 (gw32 ((M 711 19) + (1 : Int)))) x1) (fun p90 =>
          some (p90.1, p90.2)))
      else
        (Option.bind (F_fetches (gU M 711 19 (gw32 ((M 711 19) + (1 : Int)))) x1) (fun p98 =>
          some (p98.1, p98.2)))))) := by
  simp only [st_readsEdit, gWk_ite, gWk_bind, gWk_inl, gWk_inr, gWk_none]
noncomputable def F_readsEdit_44 (M : gM) (x1 x2 : Int) : Option (Int × gM) := gWh (st_readsEdit) (0, [x1, x2], M)
theorem eq_readsEdit_44 (M : gM) (x1 x2 : Int) : F_readsEdit_44 M x1 x2 = (if x2 = 43 then
    (Option.bind (F_setsFile (gU M 711 19 (gw32 ((M 711 19) + (1 : Int)))) x1) (fun p62 =>
      some (p62.1, p62.2)))
  else
    (if x2 = 45 then
      (Option.bind (F_takesAway (gU M 711 19 (gw32 ((M 711 19) + (1 : Int)))) x1) (fun p76 =>
        some (p76.1, p76.2)))
    else
      (if x2 = 42 then
        (Option.bind (F_movesThere (gU M 711 19 (gw32 ((M 711 19) + (1 : Int)))) x1) (fun p90 =>
          some (p90.1, p90.2)))
      else
        (Option.bind (F_fetches (gU M 711 19 (gw32 ((M 711 19) + (1 : Int)))) x1) (fun p98 =>
          some (p98.1, p98.2)))))) := (gWh_eq _).trans (sk_readsEdit_44 _ M x1 x2)
noncomputable def F_readsEdit (M : gM) : Option (Int × gM) := (Option.bind (F_here M) (fun r6 =>
    (if r6 = 43 then
      F_readsEdit_44 M (M 711 19) r6
    else
      (if r6 = 45 then
        F_readsEdit_44 M (M 711 19) r6
      else
        (if r6 = 42 then
          F_readsEdit_44 M (M 711 19) r6
        else
          (if r6 = 94 then
            F_readsEdit_44 M (M 711 19) r6
          else
            (Option.bind (F_wrongAt M 1 (M 711 19)) (fun p40 =>
              some (p40.1, p40.2)))))))))
theorem eq_readsEdit (M : gM) : F_readsEdit M = (Option.bind (F_here M) (fun r6 =>
    (if r6 = 43 then
      F_readsEdit_44 M (M 711 19) r6
    else
      (if r6 = 45 then
        F_readsEdit_44 M (M 711 19) r6
      else
        (if r6 = 42 then
          F_readsEdit_44 M (M 711 19) r6
        else
          (if r6 = 94 then
            F_readsEdit_44 M (M 711 19) r6
          else
            (Option.bind (F_wrongAt M 1 (M 711 19)) (fun p40 =>
              some (p40.1, p40.2))))))))) := rfl
theorem frp_readsEdit : ∀ (s : Nat × List Int × gM) (b : Int × gM), gWh (st_readsEdit) s = some b → (∀ (x1 x2 : Int) (M : gM), s = (0, [x1, x2], M) → gFr [718, 719, 720] [19, 21, 22, 23] M b.2) := by
  refine gWh_ind (fun k hk s b h => ?_)
  · rintro x1 x2 M rfl
    rw [sk_readsEdit_44] at h
    rcases gI_or h with h | h
    · obtain ⟨p62, e62, h⟩ := gI_bd h
      rw [← Option.some.inj h]
      exact (gFr_t (gFr_f (gFr_r [718, 719, 720] [19, 21, 22, 23] _) (.head _)) (fr_setsFile (b := p62) e62) (by first | decide | simp) (by decide))
    · rcases gI_or h with h | h
      · obtain ⟨p76, e76, h⟩ := gI_bd h
        rw [← Option.some.inj h]
        exact (gFr_t (gFr_f (gFr_r [718, 719, 720] [19, 21, 22, 23] _) (.head _)) (fr_takesAway (b := p76) e76) (by first | decide | simp) (by decide))
      · rcases gI_or h with h | h
        · obtain ⟨p90, e90, h⟩ := gI_bd h
          rw [← Option.some.inj h]
          exact (gFr_t (gFr_f (gFr_r [718, 719, 720] [19, 21, 22, 23] _) (.head _)) (fr_movesThere (b := p90) e90) (by first | decide | simp) (by decide))
        · obtain ⟨p98, e98, h⟩ := gI_bd h
          rw [← Option.some.inj h]
          exact (gFr_t (gFr_f (gFr_r [718, 719, 720] [19, 21, 22, 23] _) (.head _)) (fr_fetches (b := p98) e98) (by first | decide | simp) (by decide))
theorem fr_readsEdit_44 {M : gM} {x1 x2 : Int} {b : Int × gM} (h : F_readsEdit_44 M x1 x2 = some b) : gFr [718, 719, 720] [19, 21, 22, 23] M b.2 :=
  (frp_readsEdit _ _ h) _ _ _ rfl
theorem fr_readsEdit {M : gM} {b : Int × gM} (h : F_readsEdit M = some b) : gFr [718, 719, 720] [19, 21, 22, 23] M b.2 := by
  rw [eq_readsEdit] at h
  obtain ⟨r6, e6, h⟩ := gI_bd h
  rcases gI_or h with h | h
  · exact gFr_t (gFr_r [718, 719, 720] [19, 21, 22, 23] _) (fr_readsEdit_44 h) (fun _ z => z) (fun _ z => z)
  · rcases gI_or h with h | h
    · exact gFr_t (gFr_r [718, 719, 720] [19, 21, 22, 23] _) (fr_readsEdit_44 h) (fun _ z => z) (fun _ z => z)
    · rcases gI_or h with h | h
      · exact gFr_t (gFr_r [718, 719, 720] [19, 21, 22, 23] _) (fr_readsEdit_44 h) (fun _ z => z) (fun _ z => z)
      · rcases gI_or h with h | h
        · exact gFr_t (gFr_r [718, 719, 720] [19, 21, 22, 23] _) (fr_readsEdit_44 h) (fun _ z => z) (fun _ z => z)
        · obtain ⟨p40, e40, h⟩ := gI_bd h
          rw [← Option.some.inj h]
          exact (gFr_t (gFr_r [718, 719, 720] [19, 21, 22, 23] _) (fr_wrongAt (b := p40) e40) (by first | decide | simp) (by decide))
theorem bop_readsEdit : ∀ (s : Nat × List Int × gM) (b : Int × gM), gWh (st_readsEdit) s = some b → (∀ (x1 x2 : Int) (M : gM), s = (0, [x1, x2], M) → b.1 = 0 ∨ b.1 = 1) := by
  refine gWh_ind (fun k hk s b h => ?_)
  · rintro x1 x2 M rfl
    rw [sk_readsEdit_44] at h
    rcases gI_or h with h | h
    · obtain ⟨p62, e62, h⟩ := gI_bd h
      rw [← Option.some.inj h]
      exact (bo_setsFile (b := p62) e62)
    · rcases gI_or h with h | h
      · obtain ⟨p76, e76, h⟩ := gI_bd h
        rw [← Option.some.inj h]
        exact (bo_takesAway (b := p76) e76)
      · rcases gI_or h with h | h
        · obtain ⟨p90, e90, h⟩ := gI_bd h
          rw [← Option.some.inj h]
          exact (bo_movesThere (b := p90) e90)
        · obtain ⟨p98, e98, h⟩ := gI_bd h
          rw [← Option.some.inj h]
          exact (bo_fetches (b := p98) e98)
theorem bo_readsEdit_44 {M : gM} {x1 x2 : Int} {b : Int × gM} (h : F_readsEdit_44 M x1 x2 = some b) : b.1 = 0 ∨ b.1 = 1 :=
  (bop_readsEdit _ _ h) _ _ _ rfl
theorem bo_readsEdit {M : gM} {b : Int × gM} (h : F_readsEdit M = some b) : b.1 = 0 ∨ b.1 = 1 := by
  rw [eq_readsEdit] at h
  obtain ⟨r6, e6, h⟩ := gI_bd h
  rcases gI_or h with h | h
  · exact bo_readsEdit_44 h
  · rcases gI_or h with h | h
    · exact bo_readsEdit_44 h
    · rcases gI_or h with h | h
      · exact bo_readsEdit_44 h
      · rcases gI_or h with h | h
        · exact bo_readsEdit_44 h
        · obtain ⟨p40, e40, h⟩ := gI_bd h
          rw [← Option.some.inj h]
          exact (bo_wrongAt (b := p40) e40)
theorem okp_readsEdit {sh : gS} : ∀ (s : Nat × List Int × gM) (b : Int × gM), gWh (st_readsEdit) s = some b → (∀ (x1 x2 : Int) (M : gM), s = (0, [x1, x2], M) → gOK sh M → gA (gr 6 134) yX12_readsEdit cX12_readsEdit 3 (some (.boolean)) (gPq sh (some (0, b.1)) b.2) (0, 0) 44 [(4, 711), (0, x1), (0, x2)] [] sh M) := by
  refine gWh_ind (fun k hk s b h => ?_)
  · rintro x1 x2 M rfl hOK
    rw [sk_readsEdit_44] at h
    refine g_aload_n (q0 := 45) (j := 0) rfl dX12_readsEdit_44 rfl ?_
    refine g_aload_n (q0 := 46) (j := 0) rfl dX12_readsEdit_45 rfl ?_
    refine g_getf (q0 := 49) (t := 0) (fi := 19) rfl rfl ff_X12_256 dX12_readsEdit_46 rfl (sh_711 hOK) ?_
    refine g_iconst (q0 := 50) rfl dX12_readsEdit_49 (k := ?_)
    refine g_iaddw (q0 := 51) rfl dX12_readsEdit_50 ?_
    refine g_put (q0 := 54) (t := 0) (fi := 19) rfl rfl ff_X12_256 dX12_readsEdit_51 rfl (sh_711 hOK) rfl (fun _ => ⟨rfl, rfl⟩) ?_
    have hOK1 : gOK sh (gU M 711 19 (gw32 ((M 711 19) + (1 : Int)))) := gOK_o hOK (sh_711 hOK) (f := 19) rfl rfl
    refine g_iload_n (q0 := 55) (j := 2) rfl dX12_readsEdit_54 rfl ?_
    refine g_bipush (q0 := 57) rfl dX12_readsEdit_55 (k := ?_)
    refine g_icmp_ne (q0 := 60) (tgt := 68) rfl dX12_readsEdit_57 (by decide) (fun h57 => ?_) (fun h57 => ?_)
    · replace h := gI_neg h57 h
      refine g_iload_n (q0 := 69) (j := 2) rfl dX12_readsEdit_68 rfl ?_
      refine g_bipush (q0 := 71) rfl dX12_readsEdit_69 (k := ?_)
      refine g_icmp_ne (q0 := 74) (tgt := 82) rfl dX12_readsEdit_71 (by decide) (fun h71 => ?_) (fun h71 => ?_)
      · replace h := gI_neg h71 h
        refine g_iload_n (q0 := 83) (j := 2) rfl dX12_readsEdit_82 rfl ?_
        refine g_bipush (q0 := 85) rfl dX12_readsEdit_83 (k := ?_)
        refine g_icmp_ne (q0 := 88) (tgt := 96) rfl dX12_readsEdit_85 (by decide) (fun h85 => ?_) (fun h85 => ?_)
        · replace h := gI_neg h85 h
          refine g_aload_n (q0 := 97) (j := 0) rfl dX12_readsEdit_96 rfl ?_
          refine g_iload_n (q0 := 98) (j := 1) rfl dX12_readsEdit_97 rfl ?_
          obtain ⟨p98, e98, h⟩ := gI_bd h
          refine g_callVq1 (as := [_]) (rest := []) mt_X12_fetches mi_X12_fetches se_X12_fetches ml_X12_332 dX12_readsEdit_98 (q0 := 101) rfl rfl (sh_711 hOK1) rfl rfl (ok_fetches hOK1 e98) rfl ⟨by decide, by decide⟩ (Nat.le_of_ble_eq_true rfl) ⟨Nat.zero_le _, Nat.zero_le _⟩ ?_
          have hOK2 : gOK sh p98.2 := gOK_fr hOK1 (fr_fetches (b := p98) e98) (by first | decide | (intro a ha; simp only [List.mem_cons, List.not_mem_nil, or_false] at ha; omega)) (by decide)
          rw [← Option.some.inj h]
          refine g_zreturn dX12_readsEdit_101 rfl (gnz (bo_fetches (b := p98) e98)) ⟨Nat.zero_le _, Nat.zero_le _⟩ ?_
          exact ⟨rfl, rfl, rfl⟩
        · replace h := gI_pos h85 h
          refine g_aload_n (q0 := 89) (j := 0) rfl dX12_readsEdit_88 rfl ?_
          refine g_iload_n (q0 := 90) (j := 1) rfl dX12_readsEdit_89 rfl ?_
          obtain ⟨p90, e90, h⟩ := gI_bd h
          refine g_callVq1 (as := [_]) (rest := []) mt_X12_movesThere mi_X12_movesThere se_X12_movesThere ml_X12_329 dX12_readsEdit_90 (q0 := 93) rfl rfl (sh_711 hOK1) rfl rfl (ok_movesThere hOK1 e90) rfl ⟨by decide, by decide⟩ (Nat.le_of_ble_eq_true rfl) ⟨Nat.zero_le _, Nat.zero_le _⟩ ?_
          have hOK3 : gOK sh p90.2 := gOK_fr hOK1 (fr_movesThere (b := p90) e90) (by first | decide | (intro a ha; simp only [List.mem_cons, List.not_mem_nil, or_false] at ha; omega)) (by decide)
          refine g_goto (tgt := 101) dX12_readsEdit_93 (by decide) ?_
          rw [← Option.some.inj h]
          refine g_zreturn dX12_readsEdit_101 rfl (gnz (bo_movesThere (b := p90) e90)) ⟨Nat.zero_le _, Nat.zero_le _⟩ ?_
          exact ⟨rfl, rfl, rfl⟩
      · replace h := gI_pos h71 h
        refine g_aload_n (q0 := 75) (j := 0) rfl dX12_readsEdit_74 rfl ?_
        refine g_iload_n (q0 := 76) (j := 1) rfl dX12_readsEdit_75 rfl ?_
        obtain ⟨p76, e76, h⟩ := gI_bd h
        refine g_callVq1 (as := [_]) (rest := []) mt_X12_takesAway mi_X12_takesAway se_X12_takesAway ml_X12_326 dX12_readsEdit_76 (q0 := 79) rfl rfl (sh_711 hOK1) rfl rfl (ok_takesAway hOK1 e76) rfl ⟨by decide, by decide⟩ (Nat.le_of_ble_eq_true rfl) ⟨Nat.zero_le _, Nat.zero_le _⟩ ?_
        have hOK4 : gOK sh p76.2 := gOK_fr hOK1 (fr_takesAway (b := p76) e76) (by first | decide | (intro a ha; simp only [List.mem_cons, List.not_mem_nil, or_false] at ha; omega)) (by decide)
        refine g_goto (tgt := 101) dX12_readsEdit_79 (by decide) ?_
        rw [← Option.some.inj h]
        refine g_zreturn dX12_readsEdit_101 rfl (gnz (bo_takesAway (b := p76) e76)) ⟨Nat.zero_le _, Nat.zero_le _⟩ ?_
        exact ⟨rfl, rfl, rfl⟩
    · replace h := gI_pos h57 h
      refine g_aload_n (q0 := 61) (j := 0) rfl dX12_readsEdit_60 rfl ?_
      refine g_iload_n (q0 := 62) (j := 1) rfl dX12_readsEdit_61 rfl ?_
      obtain ⟨p62, e62, h⟩ := gI_bd h
      refine g_callVq1 (as := [_]) (rest := []) mt_X12_setsFile mi_X12_setsFile se_X12_setsFile ml_X12_323 dX12_readsEdit_62 (q0 := 65) rfl rfl (sh_711 hOK1) rfl rfl (ok_setsFile hOK1 e62) rfl ⟨by decide, by decide⟩ (Nat.le_of_ble_eq_true rfl) ⟨Nat.zero_le _, Nat.zero_le _⟩ ?_
      have hOK5 : gOK sh p62.2 := gOK_fr hOK1 (fr_setsFile (b := p62) e62) (by first | decide | (intro a ha; simp only [List.mem_cons, List.not_mem_nil, or_false] at ha; omega)) (by decide)
      refine g_goto (tgt := 101) dX12_readsEdit_65 (by decide) ?_
      rw [← Option.some.inj h]
      refine g_zreturn dX12_readsEdit_101 rfl (gnz (bo_setsFile (b := p62) e62)) ⟨Nat.zero_le _, Nat.zero_le _⟩ ?_
      exact ⟨rfl, rfl, rfl⟩
theorem ok_readsEdit_44 {sh : gS} {M : gM} {x1 x2 : Int} {b : Int × gM} (hOK : gOK sh M) (h : F_readsEdit_44 M x1 x2 = some b) : gA (gr 6 134) yX12_readsEdit cX12_readsEdit 3 (some (.boolean)) (gPq sh (some (0, b.1)) b.2) (0, 0) 44 [(4, 711), (0, x1), (0, x2)] [] sh M :=
  (okp_readsEdit _ _ h) _ _ _ rfl hOK
theorem ok_readsEdit {sh : gS} {M : gM} {b : Int × gM} (hOK : gOK sh M) (h : F_readsEdit M = some b) : gC (gr 6 134) yX12_readsEdit cX12_readsEdit 3 (some (.boolean)) [(4, 711)] sh M (gPq sh (some (0, b.1)) b.2) := by
  rw [eq_readsEdit] at h
  refine gC_ofA (lv := [_, _, _]) (by decide +kernel) (Nat.le_of_ble_eq_true rfl) rfl (fun hMw hav => ?_)
  refine g_aload_n (q0 := 1) (j := 0) rfl dX12_readsEdit_0 rfl ?_
  refine g_getf (q0 := 4) (t := 0) (fi := 19) rfl rfl ff_X12_256 dX12_readsEdit_1 rfl (sh_711 hOK) ?_
  refine g_istore_n (q0 := 5) (j := 1) (lv2 := [_, _, _]) rfl dX12_readsEdit_4 (by decide) rfl rfl ?_
  refine g_aload_n (q0 := 6) (j := 0) rfl dX12_readsEdit_5 rfl ?_
  obtain ⟨r6, e6, h⟩ := gI_bd h
  refine g_callVq1 (as := []) (rest := []) mt_X12_here mi_X12_here se_X12_here ml_X12_265 dX12_readsEdit_6 (q0 := 9) rfl rfl (sh_711 hOK) rfl rfl (ok_here hOK e6) rfl ⟨by decide, by decide⟩ (Nat.le_of_ble_eq_true rfl) ⟨Nat.zero_le _, Nat.zero_le _⟩ ?_
  refine g_istore_n (q0 := 10) (j := 2) (lv2 := [_, _, _]) rfl dX12_readsEdit_9 (by decide) rfl rfl ?_
  refine g_iload_n (q0 := 11) (j := 2) rfl dX12_readsEdit_10 rfl ?_
  refine g_bipush (q0 := 13) rfl dX12_readsEdit_11 (k := ?_)
  refine g_icmp_eq (q0 := 16) (tgt := 44) rfl dX12_readsEdit_13 (by decide) (fun h13 => ?_) (fun h13 => ?_)
  · replace h := gI_pos h13 h
    exact ok_readsEdit_44 hOK h
  · replace h := gI_neg h13 h
    refine g_iload_n (q0 := 17) (j := 2) rfl dX12_readsEdit_16 rfl ?_
    refine g_bipush (q0 := 19) rfl dX12_readsEdit_17 (k := ?_)
    refine g_icmp_eq (q0 := 22) (tgt := 44) rfl dX12_readsEdit_19 (by decide) (fun h19 => ?_) (fun h19 => ?_)
    · replace h := gI_pos h19 h
      exact ok_readsEdit_44 hOK h
    · replace h := gI_neg h19 h
      refine g_iload_n (q0 := 23) (j := 2) rfl dX12_readsEdit_22 rfl ?_
      refine g_bipush (q0 := 25) rfl dX12_readsEdit_23 (k := ?_)
      refine g_icmp_eq (q0 := 28) (tgt := 44) rfl dX12_readsEdit_25 (by decide) (fun h25 => ?_) (fun h25 => ?_)
      · replace h := gI_pos h25 h
        exact ok_readsEdit_44 hOK h
      · replace h := gI_neg h25 h
        refine g_iload_n (q0 := 29) (j := 2) rfl dX12_readsEdit_28 rfl ?_
        refine g_bipush (q0 := 31) rfl dX12_readsEdit_29 (k := ?_)
        refine g_icmp_eq (q0 := 34) (tgt := 44) rfl dX12_readsEdit_31 (by decide) (fun h31 => ?_) (fun h31 => ?_)
        · replace h := gI_pos h31 h
          exact ok_readsEdit_44 hOK h
        · replace h := gI_neg h31 h
          refine g_aload_n (q0 := 35) (j := 0) rfl dX12_readsEdit_34 rfl ?_
          refine g_iconst (q0 := 36) rfl dX12_readsEdit_35 (k := ?_)
          refine g_aload_n (q0 := 37) (j := 0) rfl dX12_readsEdit_36 rfl ?_
          refine g_getf (q0 := 40) (t := 0) (fi := 19) rfl rfl ff_X12_256 dX12_readsEdit_37 rfl (sh_711 hOK) ?_
          obtain ⟨p40, e40, h⟩ := gI_bd h
          refine g_callVq1 (as := [_, _]) (rest := []) mt_X12_wrongAt mi_X12_wrongAt se_X12_wrongAt ml_X12_269 dX12_readsEdit_40 (q0 := 43) rfl rfl (sh_711 hOK) rfl rfl (ok_wrongAt hOK e40) rfl ⟨by decide, by decide⟩ (Nat.le_of_ble_eq_true rfl) ⟨Nat.zero_le _, Nat.zero_le _⟩ ?_
          have hOK6 : gOK sh p40.2 := gOK_fr hOK (fr_wrongAt (b := p40) e40) (by first | decide | (intro a ha; simp only [List.mem_cons, List.not_mem_nil, or_false] at ha; omega)) (by decide)
          rw [← Option.some.inj h]
          refine g_zreturn dX12_readsEdit_43 rfl (gnz (bo_wrongAt (b := p40) e40)) ⟨Nat.zero_le _, Nat.zero_le _⟩ ?_
          exact ⟨rfl, rfl, rfl⟩
-- ==== readsEdits
theorem dX12_readsEdits_0 : decode cX12_readsEdits 0 = .ok (.aload_n 0, 1) := by decide +kernel
theorem dX12_readsEdits_1 : decode cX12_readsEdits 1 = .ok (.getfield 28, 3) := by decide +kernel
theorem dX12_readsEdits_4 : decode cX12_readsEdits 4 = .ok (.bipush 120, 2) := by decide +kernel
theorem dX12_readsEdits_6 : decode cX12_readsEdits 6 = .ok (.iconst 0, 1) := by decide +kernel
theorem dX12_readsEdits_7 : decode cX12_readsEdits 7 = .ok (.iastore, 1) := by decide +kernel
theorem dX12_readsEdits_8 : decode cX12_readsEdits 8 = .ok (.aload_n 0, 1) := by decide +kernel
theorem dX12_readsEdits_9 : decode cX12_readsEdits 9 = .ok (.getfield 186, 3) := by decide +kernel
theorem dX12_readsEdits_12 : decode cX12_readsEdits 12 = .ok (.ifCond .le 15, 3) := by decide +kernel
theorem dX12_readsEdits_15 : decode cX12_readsEdits 15 = .ok (.aload_n 0, 1) := by decide +kernel
theorem dX12_readsEdits_16 : decode cX12_readsEdits 16 = .ok (.aload_n 0, 1) := by decide +kernel
theorem dX12_readsEdits_17 : decode cX12_readsEdits 17 = .ok (.getfield 37, 3) := by decide +kernel
theorem dX12_readsEdits_20 : decode cX12_readsEdits 20 = .ok (.iconst 0, 1) := by decide +kernel
theorem dX12_readsEdits_21 : decode cX12_readsEdits 21 = .ok (.iaload, 1) := by decide +kernel
theorem dX12_readsEdits_22 : decode cX12_readsEdits 22 = .ok (.bipush 120, 2) := by decide +kernel
theorem dX12_readsEdits_24 : decode cX12_readsEdits 24 = .ok (.invokevirtual 202, 3) := by decide +kernel
theorem dX12_readsEdits_27 : decode cX12_readsEdits 27 = .ok (.aload_n 0, 1) := by decide +kernel
theorem dX12_readsEdits_28 : decode cX12_readsEdits 28 = .ok (.invokevirtual 265, 3) := by decide +kernel
theorem dX12_readsEdits_31 : decode cX12_readsEdits 31 = .ok (.bipush 58, 2) := by decide +kernel
theorem dX12_readsEdits_33 : decode cX12_readsEdits 33 = .ok (.if_icmp .eq 11, 3) := by decide +kernel
theorem dX12_readsEdits_36 : decode cX12_readsEdits 36 = .ok (.aload_n 0, 1) := by decide +kernel
theorem dX12_readsEdits_37 : decode cX12_readsEdits 37 = .ok (.invokevirtual 265, 3) := by decide +kernel
theorem dX12_readsEdits_40 : decode cX12_readsEdits 40 = .ok (.iconst (-1), 1) := by decide +kernel
theorem dX12_readsEdits_41 : decode cX12_readsEdits 41 = .ok (.if_icmp .ne 5, 3) := by decide +kernel
theorem dX12_readsEdits_44 : decode cX12_readsEdits 44 = .ok (.iconst 1, 1) := by decide +kernel
theorem dX12_readsEdits_45 : decode cX12_readsEdits 45 = .ok (.ireturn, 1) := by decide +kernel
theorem dX12_readsEdits_46 : decode cX12_readsEdits 46 = .ok (.aload_n 0, 1) := by decide +kernel
theorem dX12_readsEdits_47 : decode cX12_readsEdits 47 = .ok (.invokevirtual 335, 3) := by decide +kernel
theorem dX12_readsEdits_50 : decode cX12_readsEdits 50 = .ok (.ifCond .ne 5, 3) := by decide +kernel
theorem dX12_readsEdits_53 : decode cX12_readsEdits 53 = .ok (.iconst 0, 1) := by decide +kernel
theorem dX12_readsEdits_54 : decode cX12_readsEdits 54 = .ok (.ireturn, 1) := by decide +kernel
theorem dX12_readsEdits_55 : decode cX12_readsEdits 55 = .ok (.aload_n 0, 1) := by decide +kernel
theorem dX12_readsEdits_56 : decode cX12_readsEdits 56 = .ok (.invokevirtual 265, 3) := by decide +kernel
theorem dX12_readsEdits_59 : decode cX12_readsEdits 59 = .ok (.bipush 59, 2) := by decide +kernel
theorem dX12_readsEdits_61 : decode cX12_readsEdits 61 = .ok (.if_icmp .ne 22, 3) := by decide +kernel
theorem dX12_readsEdits_64 : decode cX12_readsEdits 64 = .ok (.aload_n 0, 1) := by decide +kernel
theorem dX12_readsEdits_65 : decode cX12_readsEdits 65 = .ok (.aload_n 0, 1) := by decide +kernel
theorem dX12_readsEdits_66 : decode cX12_readsEdits 66 = .ok (.getfield 256, 3) := by decide +kernel
theorem dX12_readsEdits_69 : decode cX12_readsEdits 69 = .ok (.iconst 1, 1) := by decide +kernel
theorem dX12_readsEdits_70 : decode cX12_readsEdits 70 = .ok (.iadd, 1) := by decide +kernel
theorem dX12_readsEdits_71 : decode cX12_readsEdits 71 = .ok (.putfield 256, 3) := by decide +kernel
theorem dX12_readsEdits_74 : decode cX12_readsEdits 74 = .ok (.aload_n 0, 1) := by decide +kernel
theorem dX12_readsEdits_75 : decode cX12_readsEdits 75 = .ok (.invokevirtual 335, 3) := by decide +kernel
theorem dX12_readsEdits_78 : decode cX12_readsEdits 78 = .ok (.ifCond .ne (-23), 3) := by decide +kernel
theorem dX12_readsEdits_81 : decode cX12_readsEdits 81 = .ok (.iconst 0, 1) := by decide +kernel
theorem dX12_readsEdits_82 : decode cX12_readsEdits 82 = .ok (.ireturn, 1) := by decide +kernel
theorem dX12_readsEdits_83 : decode cX12_readsEdits 83 = .ok (.iconst 1, 1) := by decide +kernel
theorem dX12_readsEdits_84 : decode cX12_readsEdits 84 = .ok (.ireturn, 1) := by decide +kernel
noncomputable def st_readsEdits : Nat × List Int × gM → Option ((Nat × List Int × gM) ⊕ (Int × gM))
  | (0, [], M) => (Option.bind (F_here M) (fun r28 =>
      (if r28 = 58 then
        some (.inr (1, M))
      else
        (Option.bind (F_here M) (fun r37 =>
          (if r37 = -1 then
            some (.inr (1, M))
          else
            (Option.bind (F_readsEdit M) (fun p47 =>
              (if p47.1 = 0 then
                some (.inr (0, p47.2))
              else
                some (.inl (1, [], p47.2)))))))))))
  | (1, [], M) => (Option.bind (F_here M) (fun r56 =>
      (if r56 = 59 then
        (Option.bind (F_readsEdit (gU M 711 19 (gw32 ((M 711 19) + (1 : Int))))) (fun p75 =>
          (if p75.1 = 0 then
            some (.inr (0, p75.2))
          else
            some (.inl (1, [], p75.2)))))
      else
        some (.inr (1, M)))))
  | _ => none
theorem sk_readsEdits_27 (k : Nat × List Int × gM → Option (Int × gM)) (M : gM) : gWk k (st_readsEdits (0, [], M)) = (Option.bind (F_here M) (fun r28 =>
    (if r28 = 58 then
      some (1, M)
    else
      (Option.bind (F_here M) (fun r37 =>
        (if r37 = -1 then
          some (1, M)
        else
          (Option.bind (F_readsEdit M) (fun p47 =>
            (if p47.1 = 0 then
              some (0, p47.2)
            else
              k (1, [], p47.2)))))))))) := by
  simp only [st_readsEdits, gWk_ite, gWk_bind, gWk_inl, gWk_inr, gWk_none]
theorem sk_readsEdits_55 (k : Nat × List Int × gM → Option (Int × gM)) (M : gM) : gWk k (st_readsEdits (1, [], M)) = (Option.bind (F_here M) (fun r56 =>
    (if r56 = 59 then
      (Option.bind (F_readsEdit (gU M 711 19 (gw32 ((M 711 19) + (1 : Int))))) (fun p75 =>
        (if p75.1 = 0 then
          some (0, p75.2)
        else
          k (1, [], p75.2))))
    else
      some (1, M)))) := by
  simp only [st_readsEdits, gWk_ite, gWk_bind, gWk_inl, gWk_inr, gWk_none]
noncomputable def F_readsEdits_27 (M : gM) : Option (Int × gM) := gWh (st_readsEdits) (0, [], M)
noncomputable def F_readsEdits_55 (M : gM) : Option (Int × gM) := gWh (st_readsEdits) (1, [], M)
theorem eq_readsEdits_27 (M : gM) : F_readsEdits_27 M = (Option.bind (F_here M) (fun r28 =>
    (if r28 = 58 then
      some (1, M)
    else
      (Option.bind (F_here M) (fun r37 =>
        (if r37 = -1 then
          some (1, M)
        else
          (Option.bind (F_readsEdit M) (fun p47 =>
            (if p47.1 = 0 then
              some (0, p47.2)
            else
              F_readsEdits_55 p47.2))))))))) := (gWh_eq _).trans (sk_readsEdits_27 _ M)
theorem eq_readsEdits_55 (M : gM) : F_readsEdits_55 M = (Option.bind (F_here M) (fun r56 =>
    (if r56 = 59 then
      (Option.bind (F_readsEdit (gU M 711 19 (gw32 ((M 711 19) + (1 : Int))))) (fun p75 =>
        (if p75.1 = 0 then
          some (0, p75.2)
        else
          F_readsEdits_55 p75.2)))
    else
      some (1, M)))) := (gWh_eq _).trans (sk_readsEdits_55 _ M)
noncomputable def F_readsEdits (M : gM) : Option (Int × gM) := (if (0 : Int) < ((gU M 718 120 0) 711 12) then
    (Option.bind (F_copyTree (gU M 718 120 0) ((gU M 718 120 0) 721 0) 120) (fun m24 =>
      F_readsEdits_27 m24))
  else
    F_readsEdits_27 (gU M 718 120 0))
theorem eq_readsEdits (M : gM) : F_readsEdits M = (if (0 : Int) < ((gU M 718 120 0) 711 12) then
    (Option.bind (F_copyTree (gU M 718 120 0) ((gU M 718 120 0) 721 0) 120) (fun m24 =>
      F_readsEdits_27 m24))
  else
    F_readsEdits_27 (gU M 718 120 0)) := rfl
theorem frp_readsEdits : ∀ (s : Nat × List Int × gM) (b : Int × gM), gWh (st_readsEdits) s = some b → (∀ (M : gM), s = (0, [], M) → gFr [718, 719, 720] [19, 21, 22, 23] M b.2) ∧ (∀ (M : gM), s = (1, [], M) → gFr [718, 719, 720] [19, 21, 22, 23] M b.2) := by
  refine gWh_ind (fun k hk s b h => ⟨?_, ?_⟩)
  · rintro  M rfl
    rw [sk_readsEdits_27] at h
    obtain ⟨r28, e28, h⟩ := gI_bd h
    rcases gI_or h with h | h
    · rw [← Option.some.inj h]
      exact (gFr_r [718, 719, 720] [19, 21, 22, 23] _)
    · obtain ⟨r37, e37, h⟩ := gI_bd h
      rcases gI_or h with h | h
      · rw [← Option.some.inj h]
        exact (gFr_r [718, 719, 720] [19, 21, 22, 23] _)
      · obtain ⟨p47, e47, h⟩ := gI_bd h
        rcases gI_or h with h | h
        · rw [← Option.some.inj h]
          exact (gFr_t (gFr_r [718, 719, 720] [19, 21, 22, 23] _) (fr_readsEdit (b := p47) e47) (by first | decide | simp) (by decide))
        · exact gFr_t (gFr_t (gFr_r [718, 719, 720] [19, 21, 22, 23] _) (fr_readsEdit (b := p47) e47) (by first | decide | simp) (by decide)) ((hk _ _ h).2 _ rfl) (fun _ z => z) (fun _ z => z)
  · rintro  M rfl
    rw [sk_readsEdits_55] at h
    obtain ⟨r56, e56, h⟩ := gI_bd h
    rcases gI_or h with h | h
    · obtain ⟨p75, e75, h⟩ := gI_bd h
      rcases gI_or h with h | h
      · rw [← Option.some.inj h]
        exact (gFr_t (gFr_f (gFr_r [718, 719, 720] [19, 21, 22, 23] _) (.head _)) (fr_readsEdit (b := p75) e75) (by first | decide | simp) (by decide))
      · exact gFr_t (gFr_t (gFr_f (gFr_r [718, 719, 720] [19, 21, 22, 23] _) (.head _)) (fr_readsEdit (b := p75) e75) (by first | decide | simp) (by decide)) ((hk _ _ h).2 _ rfl) (fun _ z => z) (fun _ z => z)
    · rw [← Option.some.inj h]
      exact (gFr_r [718, 719, 720] [19, 21, 22, 23] _)
theorem fr_readsEdits_27 {M : gM} {b : Int × gM} (h : F_readsEdits_27 M = some b) : gFr [718, 719, 720] [19, 21, 22, 23] M b.2 :=
  (frp_readsEdits _ _ h).1 _ rfl
theorem fr_readsEdits_55 {M : gM} {b : Int × gM} (h : F_readsEdits_55 M = some b) : gFr [718, 719, 720] [19, 21, 22, 23] M b.2 :=
  (frp_readsEdits _ _ h).2 _ rfl
theorem fr_readsEdits {M : gM} {b : Int × gM} (h : F_readsEdits M = some b) : gFr [718, 719, 720] [19, 21, 22, 23] M b.2 := by
  rw [eq_readsEdits] at h
  rcases gI_or h with h | h
  · obtain ⟨m24, e24, h⟩ := gI_bd h
    exact gFr_t (gFr_t (gFr_a (gFr_r [718, 719, 720] [19, 21, 22, 23] _) (.head _) (by decide)) (fr_copyTree (b := m24) e24) (by first | decide | simp) (by decide)) (fr_readsEdits_27 h) (fun _ z => z) (fun _ z => z)
  · exact gFr_t (gFr_a (gFr_r [718, 719, 720] [19, 21, 22, 23] _) (.head _) (by decide)) (fr_readsEdits_27 h) (fun _ z => z) (fun _ z => z)
theorem bop_readsEdits : ∀ (s : Nat × List Int × gM) (b : Int × gM), gWh (st_readsEdits) s = some b → (∀ (M : gM), s = (0, [], M) → b.1 = 0 ∨ b.1 = 1) ∧ (∀ (M : gM), s = (1, [], M) → b.1 = 0 ∨ b.1 = 1) := by
  refine gWh_ind (fun k hk s b h => ⟨?_, ?_⟩)
  · rintro  M rfl
    rw [sk_readsEdits_27] at h
    obtain ⟨r28, e28, h⟩ := gI_bd h
    rcases gI_or h with h | h
    · rw [← Option.some.inj h]
      exact (Or.inr rfl)
    · obtain ⟨r37, e37, h⟩ := gI_bd h
      rcases gI_or h with h | h
      · rw [← Option.some.inj h]
        exact (Or.inr rfl)
      · obtain ⟨p47, e47, h⟩ := gI_bd h
        rcases gI_or h with h | h
        · rw [← Option.some.inj h]
          exact (Or.inl rfl)
        · exact (hk _ _ h).2 _ rfl
  · rintro  M rfl
    rw [sk_readsEdits_55] at h
    obtain ⟨r56, e56, h⟩ := gI_bd h
    rcases gI_or h with h | h
    · obtain ⟨p75, e75, h⟩ := gI_bd h
      rcases gI_or h with h | h
      · rw [← Option.some.inj h]
        exact (Or.inl rfl)
      · exact (hk _ _ h).2 _ rfl
    · rw [← Option.some.inj h]
      exact (Or.inr rfl)
theorem bo_readsEdits_27 {M : gM} {b : Int × gM} (h : F_readsEdits_27 M = some b) : b.1 = 0 ∨ b.1 = 1 :=
  (bop_readsEdits _ _ h).1 _ rfl
theorem bo_readsEdits_55 {M : gM} {b : Int × gM} (h : F_readsEdits_55 M = some b) : b.1 = 0 ∨ b.1 = 1 :=
  (bop_readsEdits _ _ h).2 _ rfl
theorem bo_readsEdits {M : gM} {b : Int × gM} (h : F_readsEdits M = some b) : b.1 = 0 ∨ b.1 = 1 := by
  rw [eq_readsEdits] at h
  rcases gI_or h with h | h
  · obtain ⟨m24, e24, h⟩ := gI_bd h
    exact bo_readsEdits_27 h
  · exact bo_readsEdits_27 h
theorem okp_readsEdits {sh : gS} : ∀ (s : Nat × List Int × gM) (b : Int × gM), gWh (st_readsEdits) s = some b → (∀ (M : gM), s = (0, [], M) → gOK sh M → gA (gr 7 156) yX12_readsEdits cX12_readsEdits 1 (some (.boolean)) (gPq sh (some (0, b.1)) b.2) (0, 0) 27 [(4, 711)] [] sh M) ∧ (∀ (M : gM), s = (1, [], M) → gOK sh M → gA (gr 7 156) yX12_readsEdits cX12_readsEdits 1 (some (.boolean)) (gPq sh (some (0, b.1)) b.2) (0, 0) 55 [(4, 711)] [] sh M) := by
  refine gWh_ind (fun k hk s b h => ⟨?_, ?_⟩)
  · rintro  M rfl hOK
    rw [sk_readsEdits_27] at h
    refine g_aload_n (q0 := 28) (j := 0) rfl dX12_readsEdits_27 rfl ?_
    obtain ⟨r28, e28, h⟩ := gI_bd h
    refine g_callVq1 (as := []) (rest := []) mt_X12_here mi_X12_here se_X12_here ml_X12_265 dX12_readsEdits_28 (q0 := 31) rfl rfl (sh_711 hOK) rfl rfl (ok_here hOK e28) rfl ⟨by decide, by decide⟩ (Nat.le_of_ble_eq_true rfl) ⟨Nat.zero_le _, Nat.zero_le _⟩ ?_
    refine g_bipush (q0 := 33) rfl dX12_readsEdits_31 (k := ?_)
    refine g_icmp_eq (q0 := 36) (tgt := 44) rfl dX12_readsEdits_33 (by decide) (fun h33 => ?_) (fun h33 => ?_)
    · replace h := gI_pos h33 h
      refine g_iconst (q0 := 45) rfl dX12_readsEdits_44 (k := ?_)
      rw [← Option.some.inj h]
      refine g_zreturn dX12_readsEdits_45 rfl (gnz (Or.inr rfl)) ⟨Nat.zero_le _, Nat.zero_le _⟩ ?_
      exact ⟨rfl, rfl, rfl⟩
    · replace h := gI_neg h33 h
      refine g_aload_n (q0 := 37) (j := 0) rfl dX12_readsEdits_36 rfl ?_
      obtain ⟨r37, e37, h⟩ := gI_bd h
      refine g_callVq1 (as := []) (rest := []) mt_X12_here mi_X12_here se_X12_here ml_X12_265 dX12_readsEdits_37 (q0 := 40) rfl rfl (sh_711 hOK) rfl rfl (ok_here hOK e37) rfl ⟨by decide, by decide⟩ (Nat.le_of_ble_eq_true rfl) ⟨Nat.zero_le _, Nat.zero_le _⟩ ?_
      refine g_iconst (q0 := 41) rfl dX12_readsEdits_40 (k := ?_)
      refine g_icmp_ne (q0 := 44) (tgt := 46) rfl dX12_readsEdits_41 (by decide) (fun h41 => ?_) (fun h41 => ?_)
      · replace h := gI_neg h41 h
        refine g_aload_n (q0 := 47) (j := 0) rfl dX12_readsEdits_46 rfl ?_
        obtain ⟨p47, e47, h⟩ := gI_bd h
        refine g_callVq1 (as := []) (rest := []) mt_X12_readsEdit mi_X12_readsEdit se_X12_readsEdit ml_X12_335 dX12_readsEdits_47 (q0 := 50) rfl rfl (sh_711 hOK) rfl rfl (ok_readsEdit hOK e47) rfl ⟨by decide, by decide⟩ (Nat.le_of_ble_eq_true rfl) ⟨Nat.zero_le _, Nat.zero_le _⟩ ?_
        have hOK1 : gOK sh p47.2 := gOK_fr hOK (fr_readsEdit (b := p47) e47) (by first | decide | (intro a ha; simp only [List.mem_cons, List.not_mem_nil, or_false] at ha; omega)) (by decide)
        refine g_if_ne (q0 := 53) (tgt := 55) rfl dX12_readsEdits_50 (by decide) (fun h50 => ?_) (fun h50 => ?_)
        · replace h := gI_neg h50 h
          exact (hk _ _ h).2 _ rfl hOK1
        · replace h := gI_pos h50 h
          refine g_iconst (q0 := 54) rfl dX12_readsEdits_53 (k := ?_)
          rw [← Option.some.inj h]
          refine g_zreturn dX12_readsEdits_54 rfl (gnz (Or.inl rfl)) ⟨Nat.zero_le _, Nat.zero_le _⟩ ?_
          exact ⟨rfl, rfl, rfl⟩
      · replace h := gI_pos h41 h
        refine g_iconst (q0 := 45) rfl dX12_readsEdits_44 (k := ?_)
        rw [← Option.some.inj h]
        refine g_zreturn dX12_readsEdits_45 rfl (gnz (Or.inr rfl)) ⟨Nat.zero_le _, Nat.zero_le _⟩ ?_
        exact ⟨rfl, rfl, rfl⟩
  · rintro  M rfl hOK
    rw [sk_readsEdits_55] at h
    refine g_aload_n (q0 := 56) (j := 0) rfl dX12_readsEdits_55 rfl ?_
    obtain ⟨r56, e56, h⟩ := gI_bd h
    refine g_callVq1 (as := []) (rest := []) mt_X12_here mi_X12_here se_X12_here ml_X12_265 dX12_readsEdits_56 (q0 := 59) rfl rfl (sh_711 hOK) rfl rfl (ok_here hOK e56) rfl ⟨by decide, by decide⟩ (Nat.le_of_ble_eq_true rfl) ⟨Nat.zero_le _, Nat.zero_le _⟩ ?_
    refine g_bipush (q0 := 61) rfl dX12_readsEdits_59 (k := ?_)
    refine g_icmp_ne (q0 := 64) (tgt := 83) rfl dX12_readsEdits_61 (by decide) (fun h61 => ?_) (fun h61 => ?_)
    · replace h := gI_neg h61 h
      refine g_iconst (q0 := 84) rfl dX12_readsEdits_83 (k := ?_)
      rw [← Option.some.inj h]
      refine g_zreturn dX12_readsEdits_84 rfl (gnz (Or.inr rfl)) ⟨Nat.zero_le _, Nat.zero_le _⟩ ?_
      exact ⟨rfl, rfl, rfl⟩
    · replace h := gI_pos h61 h
      refine g_aload_n (q0 := 65) (j := 0) rfl dX12_readsEdits_64 rfl ?_
      refine g_aload_n (q0 := 66) (j := 0) rfl dX12_readsEdits_65 rfl ?_
      refine g_getf (q0 := 69) (t := 0) (fi := 19) rfl rfl ff_X12_256 dX12_readsEdits_66 rfl (sh_711 hOK) ?_
      refine g_iconst (q0 := 70) rfl dX12_readsEdits_69 (k := ?_)
      refine g_iaddw (q0 := 71) rfl dX12_readsEdits_70 ?_
      refine g_put (q0 := 74) (t := 0) (fi := 19) rfl rfl ff_X12_256 dX12_readsEdits_71 rfl (sh_711 hOK) rfl (fun _ => ⟨rfl, rfl⟩) ?_
      have hOK2 : gOK sh (gU M 711 19 (gw32 ((M 711 19) + (1 : Int)))) := gOK_o hOK (sh_711 hOK) (f := 19) rfl rfl
      refine g_aload_n (q0 := 75) (j := 0) rfl dX12_readsEdits_74 rfl ?_
      obtain ⟨p75, e75, h⟩ := gI_bd h
      refine g_callVq1 (as := []) (rest := []) mt_X12_readsEdit mi_X12_readsEdit se_X12_readsEdit ml_X12_335 dX12_readsEdits_75 (q0 := 78) rfl rfl (sh_711 hOK2) rfl rfl (ok_readsEdit hOK2 e75) rfl ⟨by decide, by decide⟩ (Nat.le_of_ble_eq_true rfl) ⟨Nat.zero_le _, Nat.zero_le _⟩ ?_
      have hOK3 : gOK sh p75.2 := gOK_fr hOK2 (fr_readsEdit (b := p75) e75) (by first | decide | (intro a ha; simp only [List.mem_cons, List.not_mem_nil, or_false] at ha; omega)) (by decide)
      refine g_if_ne (q0 := 81) (tgt := 55) rfl dX12_readsEdits_78 (by decide) (fun h78 => ?_) (fun h78 => ?_)
      · replace h := gI_neg h78 h
        exact (hk _ _ h).2 _ rfl hOK3
      · replace h := gI_pos h78 h
        refine g_iconst (q0 := 82) rfl dX12_readsEdits_81 (k := ?_)
        rw [← Option.some.inj h]
        refine g_zreturn dX12_readsEdits_82 rfl (gnz (Or.inl rfl)) ⟨Nat.zero_le _, Nat.zero_le _⟩ ?_
        exact ⟨rfl, rfl, rfl⟩
theorem ok_readsEdits_27 {sh : gS} {M : gM} {b : Int × gM} (hOK : gOK sh M) (h : F_readsEdits_27 M = some b) : gA (gr 7 156) yX12_readsEdits cX12_readsEdits 1 (some (.boolean)) (gPq sh (some (0, b.1)) b.2) (0, 0) 27 [(4, 711)] [] sh M :=
  (okp_readsEdits _ _ h).1 _ rfl hOK
theorem ok_readsEdits_55 {sh : gS} {M : gM} {b : Int × gM} (hOK : gOK sh M) (h : F_readsEdits_55 M = some b) : gA (gr 7 156) yX12_readsEdits cX12_readsEdits 1 (some (.boolean)) (gPq sh (some (0, b.1)) b.2) (0, 0) 55 [(4, 711)] [] sh M :=
  (okp_readsEdits _ _ h).2 _ rfl hOK
theorem ok_readsEdits {sh : gS} {M : gM} {b : Int × gM} (hOK : gOK sh M) (h : F_readsEdits M = some b) : gC (gr 7 156) yX12_readsEdits cX12_readsEdits 1 (some (.boolean)) [(4, 711)] sh M (gPq sh (some (0, b.1)) b.2) := by
  rw [eq_readsEdits] at h
  refine gC_ofA (lv := [_]) (by decide +kernel) (Nat.le_of_ble_eq_true rfl) rfl (fun hMw hav => ?_)
  refine g_aload_n (q0 := 1) (j := 0) rfl dX12_readsEdits_0 rfl ?_
  refine g_getp (q0 := 4) (b := 718) rfl ff_X12_28 dX12_readsEdits_1 rfl hOK (by decide) (sh_711 hOK) rfl (by decide) ?_
  refine g_bipush (q0 := 6) rfl dX12_readsEdits_4 (k := ?_)
  refine g_iconst (q0 := 7) rfl dX12_readsEdits_6 (k := ?_)
  refine g_iast (q0 := 8) rfl dX12_readsEdits_7 (sh_718 hOK) (by decide) (by decide) ?_
  have hOK4 : gOK sh (gU M 718 120 0) := gOK_i hOK (sh_718 hOK)
  refine g_aload_n (q0 := 9) (j := 0) rfl dX12_readsEdits_8 rfl ?_
  refine g_getf (q0 := 12) (t := 0) (fi := 12) rfl rfl ff_X12_186 dX12_readsEdits_9 rfl (sh_711 hOK4) ?_
  refine g_if_le (q0 := 15) (tgt := 27) rfl dX12_readsEdits_12 (by decide) (fun h12 => ?_) (fun h12 => ?_)
  · replace h := gI_neg (Int.not_lt.mpr h12) h
    exact ok_readsEdits_27 hOK4 h
  · replace h := gI_pos h12 h
    refine g_aload_n (q0 := 16) (j := 0) rfl dX12_readsEdits_15 rfl ?_
    refine g_aload_n (q0 := 17) (j := 0) rfl dX12_readsEdits_16 rfl ?_
    refine g_getp (q0 := 20) (b := 721) rfl ff_X12_37 dX12_readsEdits_17 rfl hOK4 (by decide) (sh_711 hOK4) rfl (by decide) ?_
    refine g_iconst (q0 := 21) rfl dX12_readsEdits_20 (k := ?_)
    refine g_iald (q0 := 22) rfl dX12_readsEdits_21 (sh_721 hOK4) (by decide) (by decide) ?_
    refine g_bipush (q0 := 24) rfl dX12_readsEdits_22 (k := ?_)
    obtain ⟨m24, e24, h⟩ := gI_bd h
    refine g_callVq0 (as := [_, _]) (rest := []) mt_X12_copyTree mi_X12_copyTree se_X12_copyTree ml_X12_202 dX12_readsEdits_24 (q0 := 27) rfl rfl (sh_711 hOK4) rfl rfl (ok_copyTree hOK4 e24) rfl ⟨by decide, by decide⟩ (Nat.le_of_ble_eq_true rfl) ⟨Nat.zero_le _, Nat.zero_le _⟩ ?_
    have hOK5 : gOK sh m24 := gOK_fr hOK4 (fr_copyTree (b := m24) e24) (by first | decide | (intro a ha; simp only [List.mem_cons, List.not_mem_nil, or_false] at ha; omega)) (by decide)
    exact ok_readsEdits_27 hOK5 h
-- ==== readsSaid
theorem dX12_readsSaid_0 : decode cX12_readsSaid 0 = .ok (.aload_n 0, 1) := by decide +kernel
theorem dX12_readsSaid_1 : decode cX12_readsSaid 1 = .ok (.invokevirtual 265, 3) := by decide +kernel
theorem dX12_readsSaid_4 : decode cX12_readsSaid 4 = .ok (.iconst (-1), 1) := by decide +kernel
theorem dX12_readsSaid_5 : decode cX12_readsSaid 5 = .ok (.if_icmp .ne 5, 3) := by decide +kernel
theorem dX12_readsSaid_8 : decode cX12_readsSaid 8 = .ok (.iconst 1, 1) := by decide +kernel
theorem dX12_readsSaid_9 : decode cX12_readsSaid 9 = .ok (.ireturn, 1) := by decide +kernel
theorem dX12_readsSaid_10 : decode cX12_readsSaid 10 = .ok (.aload_n 0, 1) := by decide +kernel
theorem dX12_readsSaid_11 : decode cX12_readsSaid 11 = .ok (.bipush 58, 2) := by decide +kernel
theorem dX12_readsSaid_13 : decode cX12_readsSaid 13 = .ok (.invokevirtual 297, 3) := by decide +kernel
theorem dX12_readsSaid_16 : decode cX12_readsSaid 16 = .ok (.ifCond .ne 5, 3) := by decide +kernel
theorem dX12_readsSaid_19 : decode cX12_readsSaid 19 = .ok (.iconst 0, 1) := by decide +kernel
theorem dX12_readsSaid_20 : decode cX12_readsSaid 20 = .ok (.ireturn, 1) := by decide +kernel
theorem dX12_readsSaid_21 : decode cX12_readsSaid 21 = .ok (.aload_n 0, 1) := by decide +kernel
theorem dX12_readsSaid_22 : decode cX12_readsSaid 22 = .ok (.invokevirtual 265, 3) := by decide +kernel
theorem dX12_readsSaid_25 : decode cX12_readsSaid 25 = .ok (.iconst (-1), 1) := by decide +kernel
theorem dX12_readsSaid_26 : decode cX12_readsSaid 26 = .ok (.if_icmp .eq 97, 3) := by decide +kernel
theorem dX12_readsSaid_29 : decode cX12_readsSaid 29 = .ok (.aload_n 0, 1) := by decide +kernel
theorem dX12_readsSaid_30 : decode cX12_readsSaid 30 = .ok (.getfield 189, 3) := by decide +kernel
theorem dX12_readsSaid_33 : decode cX12_readsSaid 33 = .ok (.bipush 12, 2) := by decide +kernel
theorem dX12_readsSaid_35 : decode cX12_readsSaid 35 = .ok (.if_icmp .ne 13, 3) := by decide +kernel
theorem dX12_readsSaid_38 : decode cX12_readsSaid 38 = .ok (.aload_n 0, 1) := by decide +kernel
theorem dX12_readsSaid_39 : decode cX12_readsSaid 39 = .ok (.iconst 2, 1) := by decide +kernel
theorem dX12_readsSaid_40 : decode cX12_readsSaid 40 = .ok (.aload_n 0, 1) := by decide +kernel
theorem dX12_readsSaid_41 : decode cX12_readsSaid 41 = .ok (.getfield 256, 3) := by decide +kernel
theorem dX12_readsSaid_44 : decode cX12_readsSaid 44 = .ok (.invokevirtual 269, 3) := by decide +kernel
theorem dX12_readsSaid_47 : decode cX12_readsSaid 47 = .ok (.ireturn, 1) := by decide +kernel
theorem dX12_readsSaid_48 : decode cX12_readsSaid 48 = .ok (.aload_n 0, 1) := by decide +kernel
theorem dX12_readsSaid_49 : decode cX12_readsSaid 49 = .ok (.invokevirtual 265, 3) := by decide +kernel
theorem dX12_readsSaid_52 : decode cX12_readsSaid 52 = .ok (.invokestatic 281, 3) := by decide +kernel
theorem dX12_readsSaid_55 : decode cX12_readsSaid 55 = .ok (.ifCond .ne 32, 3) := by decide +kernel
theorem dX12_readsSaid_58 : decode cX12_readsSaid 58 = .ok (.aload_n 0, 1) := by decide +kernel
theorem dX12_readsSaid_59 : decode cX12_readsSaid 59 = .ok (.invokevirtual 265, 3) := by decide +kernel
theorem dX12_readsSaid_62 : decode cX12_readsSaid 62 = .ok (.invokestatic 272, 3) := by decide +kernel
theorem dX12_readsSaid_65 : decode cX12_readsSaid 65 = .ok (.ifCond .ne 22, 3) := by decide +kernel
theorem dX12_readsSaid_68 : decode cX12_readsSaid 68 = .ok (.aload_n 0, 1) := by decide +kernel
theorem dX12_readsSaid_69 : decode cX12_readsSaid 69 = .ok (.invokevirtual 265, 3) := by decide +kernel
theorem dX12_readsSaid_72 : decode cX12_readsSaid 72 = .ok (.bipush 35, 2) := by decide +kernel
theorem dX12_readsSaid_74 : decode cX12_readsSaid 74 = .ok (.if_icmp .eq 13, 3) := by decide +kernel
theorem dX12_readsSaid_77 : decode cX12_readsSaid 77 = .ok (.aload_n 0, 1) := by decide +kernel
theorem dX12_readsSaid_78 : decode cX12_readsSaid 78 = .ok (.iconst 1, 1) := by decide +kernel
theorem dX12_readsSaid_79 : decode cX12_readsSaid 79 = .ok (.aload_n 0, 1) := by decide +kernel
theorem dX12_readsSaid_80 : decode cX12_readsSaid 80 = .ok (.getfield 256, 3) := by decide +kernel
theorem dX12_readsSaid_83 : decode cX12_readsSaid 83 = .ok (.invokevirtual 269, 3) := by decide +kernel
theorem dX12_readsSaid_86 : decode cX12_readsSaid 86 = .ok (.ireturn, 1) := by decide +kernel
theorem dX12_readsSaid_87 : decode cX12_readsSaid 87 = .ok (.aload_n 0, 1) := by decide +kernel
theorem dX12_readsSaid_88 : decode cX12_readsSaid 88 = .ok (.getfield 40, 3) := by decide +kernel
theorem dX12_readsSaid_91 : decode cX12_readsSaid 91 = .ok (.aload_n 0, 1) := by decide +kernel
theorem dX12_readsSaid_92 : decode cX12_readsSaid 92 = .ok (.getfield 189, 3) := by decide +kernel
theorem dX12_readsSaid_95 : decode cX12_readsSaid 95 = .ok (.aload_n 0, 1) := by decide +kernel
theorem dX12_readsSaid_96 : decode cX12_readsSaid 96 = .ok (.invokevirtual 265, 3) := by decide +kernel
theorem dX12_readsSaid_99 : decode cX12_readsSaid 99 = .ok (.iastore, 1) := by decide +kernel
theorem dX12_readsSaid_100 : decode cX12_readsSaid 100 = .ok (.aload_n 0, 1) := by decide +kernel
theorem dX12_readsSaid_101 : decode cX12_readsSaid 101 = .ok (.aload_n 0, 1) := by decide +kernel
theorem dX12_readsSaid_102 : decode cX12_readsSaid 102 = .ok (.getfield 189, 3) := by decide +kernel
theorem dX12_readsSaid_105 : decode cX12_readsSaid 105 = .ok (.iconst 1, 1) := by decide +kernel
theorem dX12_readsSaid_106 : decode cX12_readsSaid 106 = .ok (.iadd, 1) := by decide +kernel
theorem dX12_readsSaid_107 : decode cX12_readsSaid 107 = .ok (.putfield 189, 3) := by decide +kernel
theorem dX12_readsSaid_110 : decode cX12_readsSaid 110 = .ok (.aload_n 0, 1) := by decide +kernel
theorem dX12_readsSaid_111 : decode cX12_readsSaid 111 = .ok (.aload_n 0, 1) := by decide +kernel
theorem dX12_readsSaid_112 : decode cX12_readsSaid 112 = .ok (.getfield 256, 3) := by decide +kernel
theorem dX12_readsSaid_115 : decode cX12_readsSaid 115 = .ok (.iconst 1, 1) := by decide +kernel
theorem dX12_readsSaid_116 : decode cX12_readsSaid 116 = .ok (.iadd, 1) := by decide +kernel
theorem dX12_readsSaid_117 : decode cX12_readsSaid 117 = .ok (.putfield 256, 3) := by decide +kernel
theorem dX12_readsSaid_120 : decode cX12_readsSaid 120 = .ok (.goto (-99), 3) := by decide +kernel
theorem dX12_readsSaid_123 : decode cX12_readsSaid 123 = .ok (.iconst 1, 1) := by decide +kernel
theorem dX12_readsSaid_124 : decode cX12_readsSaid 124 = .ok (.ireturn, 1) := by decide +kernel
noncomputable def st_readsSaid : Nat × List Int × gM → Option ((Nat × List Int × gM) ⊕ (Int × gM))
  | (0, [], M) => (Option.bind (F_here M) (fun r22 =>
      (if r22 = -1 then
        some (.inr (1, M))
      else
        (if (M 711 13) = 12 then
          (Option.bind (F_wrongAt M 2 (M 711 19)) (fun p44 =>
            some (.inr (p44.1, p44.2))))
        else
          (Option.bind (F_here M) (fun r49 =>
            (Option.bind (F_isSmall r49) (fun r52 =>
              (if r52 = 0 then
                (Option.bind (F_here M) (fun r59 =>
                  (Option.bind (F_isDigit r59) (fun r62 =>
                    (if r62 = 0 then
                      (Option.bind (F_here M) (fun r69 =>
                        (if r69 = 35 then
                          some (.inl (1, [], M))
                        else
                          (Option.bind (F_wrongAt M 1 (M 711 19)) (fun p83 =>
                            some (.inr (p83.1, p83.2)))))))
                    else
                      some (.inl (1, [], M)))))))
              else
                some (.inl (1, [], M)))))))))))
  | (1, [], M) => (Option.bind (F_here M) (fun r96 =>
      (if 0 ≤ (M 711 13) ∧ (M 711 13) < 400 then
        some (.inl (0, [], (gU (gU (gU M 722 (M 711 13) r96) 711 13 (gw32 (((gU M 722 (M 711 13) r96) 711 13) + (1 : Int)))) 711 19 (gw32 (((gU (gU M 722 (M 711 13) r96) 711 13 (gw32 (((gU M 722 (M 711 13) r96) 711 13) + (1 : Int)))) 711 19) + (1 : Int))))))
      else none)))
  | _ => none
theorem sk_readsSaid_21 (k : Nat × List Int × gM → Option (Int × gM)) (M : gM) : gWk k (st_readsSaid (0, [], M)) = (Option.bind (F_here M) (fun r22 =>
    (if r22 = -1 then
      some (1, M)
    else
      (if (M 711 13) = 12 then
        (Option.bind (F_wrongAt M 2 (M 711 19)) (fun p44 =>
          some (p44.1, p44.2)))
      else
        (Option.bind (F_here M) (fun r49 =>
          (Option.bind (F_isSmall r49) (fun r52 =>
            (if r52 = 0 then
              (Option.bind (F_here M) (fun r59 =>
                (Option.bind (F_isDigit r59) (fun r62 =>
                  (if r62 = 0 then
                    (Option.bind (F_here M) (fun r69 =>
                      (if r69 = 35 then
                        k (1, [], M)
                      else
                        (Option.bind (F_wrongAt M 1 (M 711 19)) (fun p83 =>
                          some (p83.1, p83.2))))))
                  else
                    k (1, [], M))))))
            else
              k (1, [], M)))))))))) := by
  simp only [st_readsSaid, gWk_ite, gWk_bind, gWk_inl, gWk_inr, gWk_none]
theorem sk_readsSaid_87 (k : Nat × List Int × gM → Option (Int × gM)) (M : gM) : gWk k (st_readsSaid (1, [], M)) = (Option.bind (F_here M) (fun r96 =>
    (if 0 ≤ (M 711 13) ∧ (M 711 13) < 400 then
      k (0, [], (gU (gU (gU M 722 (M 711 13) r96) 711 13 (gw32 (((gU M 722 (M 711 13) r96) 711 13) + (1 : Int)))) 711 19 (gw32 (((gU (gU M 722 (M 711 13) r96) 711 13 (gw32 (((gU M 722 (M 711 13) r96) 711 13) + (1 : Int)))) 711 19) + (1 : Int)))))
    else none))) := by
  simp only [st_readsSaid, gWk_ite, gWk_bind, gWk_inl, gWk_inr, gWk_none]
noncomputable def F_readsSaid_21 (M : gM) : Option (Int × gM) := gWh (st_readsSaid) (0, [], M)
noncomputable def F_readsSaid_87 (M : gM) : Option (Int × gM) := gWh (st_readsSaid) (1, [], M)
theorem eq_readsSaid_21 (M : gM) : F_readsSaid_21 M = (Option.bind (F_here M) (fun r22 =>
    (if r22 = -1 then
      some (1, M)
    else
      (if (M 711 13) = 12 then
        (Option.bind (F_wrongAt M 2 (M 711 19)) (fun p44 =>
          some (p44.1, p44.2)))
      else
        (Option.bind (F_here M) (fun r49 =>
          (Option.bind (F_isSmall r49) (fun r52 =>
            (if r52 = 0 then
              (Option.bind (F_here M) (fun r59 =>
                (Option.bind (F_isDigit r59) (fun r62 =>
                  (if r62 = 0 then
                    (Option.bind (F_here M) (fun r69 =>
                      (if r69 = 35 then
                        F_readsSaid_87 M
                      else
                        (Option.bind (F_wrongAt M 1 (M 711 19)) (fun p83 =>
                          some (p83.1, p83.2))))))
                  else
                    F_readsSaid_87 M)))))
            else
              F_readsSaid_87 M))))))))) := (gWh_eq _).trans (sk_readsSaid_21 _ M)
theorem eq_readsSaid_87 (M : gM) : F_readsSaid_87 M = (Option.bind (F_here M) (fun r96 =>
    (if 0 ≤ (M 711 13) ∧ (M 711 13) < 400 then
      F_readsSaid_21 (gU (gU (gU M 722 (M 711 13) r96) 711 13 (gw32 (((gU M 722 (M 711 13) r96) 711 13) + (1 : Int)))) 711 19 (gw32 (((gU (gU M 722 (M 711 13) r96) 711 13 (gw32 (((gU M 722 (M 711 13) r96) 711 13) + (1 : Int)))) 711 19) + (1 : Int))))
    else none))) := (gWh_eq _).trans (sk_readsSaid_87 _ M)
noncomputable def F_readsSaid (M : gM) : Option (Int × gM) := (Option.bind (F_here M) (fun r1 =>
    (if r1 = -1 then
      some (1, M)
    else
      (Option.bind (F_takesSign M 58) (fun p13 =>
        (if p13.1 = 0 then
          some (0, p13.2)
        else
          F_readsSaid_21 p13.2))))))
theorem eq_readsSaid (M : gM) : F_readsSaid M = (Option.bind (F_here M) (fun r1 =>
    (if r1 = -1 then
      some (1, M)
    else
      (Option.bind (F_takesSign M 58) (fun p13 =>
        (if p13.1 = 0 then
          some (0, p13.2)
        else
          F_readsSaid_21 p13.2)))))) := rfl
theorem frp_readsSaid : ∀ (s : Nat × List Int × gM) (b : Int × gM), gWh (st_readsSaid) s = some b → (∀ (M : gM), s = (0, [], M) → gFr [722] [13, 19, 21] M b.2) ∧ (∀ (M : gM), s = (1, [], M) → gFr [722] [13, 19, 21] M b.2) := by
  refine gWh_ind (fun k hk s b h => ⟨?_, ?_⟩)
  · rintro  M rfl
    rw [sk_readsSaid_21] at h
    obtain ⟨r22, e22, h⟩ := gI_bd h
    rcases gI_or h with h | h
    · rw [← Option.some.inj h]
      exact (gFr_r [722] [13, 19, 21] _)
    · rcases gI_or h with h | h
      · obtain ⟨p44, e44, h⟩ := gI_bd h
        rw [← Option.some.inj h]
        exact (gFr_t (gFr_r [722] [13, 19, 21] _) (fr_wrongAt (b := p44) e44) (by first | decide | simp) (by decide))
      · obtain ⟨r49, e49, h⟩ := gI_bd h
        obtain ⟨r52, e52, h⟩ := gI_bd h
        rcases gI_or h with h | h
        · obtain ⟨r59, e59, h⟩ := gI_bd h
          obtain ⟨r62, e62, h⟩ := gI_bd h
          rcases gI_or h with h | h
          · obtain ⟨r69, e69, h⟩ := gI_bd h
            rcases gI_or h with h | h
            · exact gFr_t (gFr_r [722] [13, 19, 21] _) ((hk _ _ h).2 _ rfl) (fun _ z => z) (fun _ z => z)
            · obtain ⟨p83, e83, h⟩ := gI_bd h
              rw [← Option.some.inj h]
              exact (gFr_t (gFr_r [722] [13, 19, 21] _) (fr_wrongAt (b := p83) e83) (by first | decide | simp) (by decide))
          · exact gFr_t (gFr_r [722] [13, 19, 21] _) ((hk _ _ h).2 _ rfl) (fun _ z => z) (fun _ z => z)
        · exact gFr_t (gFr_r [722] [13, 19, 21] _) ((hk _ _ h).2 _ rfl) (fun _ z => z) (fun _ z => z)
  · rintro  M rfl
    rw [sk_readsSaid_87] at h
    obtain ⟨r96, e96, h⟩ := gI_bd h
    obtain ⟨g3, h⟩ := gI_gd h
    exact gFr_t (gFr_f (gFr_f (gFr_a (gFr_r [722] [13, 19, 21] _) (.head _) (by decide)) (.head _)) (.tail _ (.head _))) ((hk _ _ h).1 _ rfl) (fun _ z => z) (fun _ z => z)
theorem fr_readsSaid_21 {M : gM} {b : Int × gM} (h : F_readsSaid_21 M = some b) : gFr [722] [13, 19, 21] M b.2 :=
  (frp_readsSaid _ _ h).1 _ rfl
theorem fr_readsSaid_87 {M : gM} {b : Int × gM} (h : F_readsSaid_87 M = some b) : gFr [722] [13, 19, 21] M b.2 :=
  (frp_readsSaid _ _ h).2 _ rfl
theorem fr_readsSaid {M : gM} {b : Int × gM} (h : F_readsSaid M = some b) : gFr [722] [13, 19, 21] M b.2 := by
  rw [eq_readsSaid] at h
  obtain ⟨r1, e1, h⟩ := gI_bd h
  rcases gI_or h with h | h
  · rw [← Option.some.inj h]
    exact (gFr_r [722] [13, 19, 21] _)
  · obtain ⟨p13, e13, h⟩ := gI_bd h
    rcases gI_or h with h | h
    · rw [← Option.some.inj h]
      exact (gFr_t (gFr_r [722] [13, 19, 21] _) (fr_takesSign (b := p13) e13) (by first | decide | simp) (by decide))
    · exact gFr_t (gFr_t (gFr_r [722] [13, 19, 21] _) (fr_takesSign (b := p13) e13) (by first | decide | simp) (by decide)) (fr_readsSaid_21 h) (fun _ z => z) (fun _ z => z)
theorem bop_readsSaid : ∀ (s : Nat × List Int × gM) (b : Int × gM), gWh (st_readsSaid) s = some b → (∀ (M : gM), s = (0, [], M) → b.1 = 0 ∨ b.1 = 1) ∧ (∀ (M : gM), s = (1, [], M) → b.1 = 0 ∨ b.1 = 1) := by
  refine gWh_ind (fun k hk s b h => ⟨?_, ?_⟩)
  · rintro  M rfl
    rw [sk_readsSaid_21] at h
    obtain ⟨r22, e22, h⟩ := gI_bd h
    rcases gI_or h with h | h
    · rw [← Option.some.inj h]
      exact (Or.inr rfl)
    · rcases gI_or h with h | h
      · obtain ⟨p44, e44, h⟩ := gI_bd h
        rw [← Option.some.inj h]
        exact (bo_wrongAt (b := p44) e44)
      · obtain ⟨r49, e49, h⟩ := gI_bd h
        obtain ⟨r52, e52, h⟩ := gI_bd h
        rcases gI_or h with h | h
        · obtain ⟨r59, e59, h⟩ := gI_bd h
          obtain ⟨r62, e62, h⟩ := gI_bd h
          rcases gI_or h with h | h
          · obtain ⟨r69, e69, h⟩ := gI_bd h
            rcases gI_or h with h | h
            · exact (hk _ _ h).2 _ rfl
            · obtain ⟨p83, e83, h⟩ := gI_bd h
              rw [← Option.some.inj h]
              exact (bo_wrongAt (b := p83) e83)
          · exact (hk _ _ h).2 _ rfl
        · exact (hk _ _ h).2 _ rfl
  · rintro  M rfl
    rw [sk_readsSaid_87] at h
    obtain ⟨r96, e96, h⟩ := gI_bd h
    obtain ⟨g3, h⟩ := gI_gd h
    exact (hk _ _ h).1 _ rfl
theorem bo_readsSaid_21 {M : gM} {b : Int × gM} (h : F_readsSaid_21 M = some b) : b.1 = 0 ∨ b.1 = 1 :=
  (bop_readsSaid _ _ h).1 _ rfl
theorem bo_readsSaid_87 {M : gM} {b : Int × gM} (h : F_readsSaid_87 M = some b) : b.1 = 0 ∨ b.1 = 1 :=
  (bop_readsSaid _ _ h).2 _ rfl
theorem bo_readsSaid {M : gM} {b : Int × gM} (h : F_readsSaid M = some b) : b.1 = 0 ∨ b.1 = 1 := by
  rw [eq_readsSaid] at h
  obtain ⟨r1, e1, h⟩ := gI_bd h
  rcases gI_or h with h | h
  · rw [← Option.some.inj h]
    exact (Or.inr rfl)
  · obtain ⟨p13, e13, h⟩ := gI_bd h
    rcases gI_or h with h | h
    · rw [← Option.some.inj h]
      exact (Or.inl rfl)
    · exact bo_readsSaid_21 h
theorem okp_readsSaid {sh : gS} : ∀ (s : Nat × List Int × gM) (b : Int × gM), gWh (st_readsSaid) s = some b → (∀ (M : gM), s = (0, [], M) → gOK sh M → gA (gr 2 43) yX12_readsSaid cX12_readsSaid 1 (some (.boolean)) (gPq sh (some (0, b.1)) b.2) (0, 0) 21 [(4, 711)] [] sh M) ∧ (∀ (M : gM), s = (1, [], M) → gOK sh M → gA (gr 2 43) yX12_readsSaid cX12_readsSaid 1 (some (.boolean)) (gPq sh (some (0, b.1)) b.2) (0, 0) 87 [(4, 711)] [] sh M) := by
  refine gWh_ind (fun k hk s b h => ⟨?_, ?_⟩)
  · rintro  M rfl hOK
    rw [sk_readsSaid_21] at h
    refine g_aload_n (q0 := 22) (j := 0) rfl dX12_readsSaid_21 rfl ?_
    obtain ⟨r22, e22, h⟩ := gI_bd h
    refine g_callVq1 (as := []) (rest := []) mt_X12_here mi_X12_here se_X12_here ml_X12_265 dX12_readsSaid_22 (q0 := 25) rfl rfl (sh_711 hOK) rfl rfl (ok_here hOK e22) rfl ⟨by decide, by decide⟩ (Nat.le_of_ble_eq_true rfl) ⟨Nat.zero_le _, Nat.zero_le _⟩ ?_
    refine g_iconst (q0 := 26) rfl dX12_readsSaid_25 (k := ?_)
    refine g_icmp_eq (q0 := 29) (tgt := 123) rfl dX12_readsSaid_26 (by decide) (fun h26 => ?_) (fun h26 => ?_)
    · replace h := gI_pos h26 h
      refine g_iconst (q0 := 124) rfl dX12_readsSaid_123 (k := ?_)
      rw [← Option.some.inj h]
      refine g_zreturn dX12_readsSaid_124 rfl (gnz (Or.inr rfl)) ⟨Nat.zero_le _, Nat.zero_le _⟩ ?_
      exact ⟨rfl, rfl, rfl⟩
    · replace h := gI_neg h26 h
      refine g_aload_n (q0 := 30) (j := 0) rfl dX12_readsSaid_29 rfl ?_
      refine g_getf (q0 := 33) (t := 0) (fi := 13) rfl rfl ff_X12_189 dX12_readsSaid_30 rfl (sh_711 hOK) ?_
      refine g_bipush (q0 := 35) rfl dX12_readsSaid_33 (k := ?_)
      refine g_icmp_ne (q0 := 38) (tgt := 48) rfl dX12_readsSaid_35 (by decide) (fun h35 => ?_) (fun h35 => ?_)
      · replace h := gI_neg h35 h
        refine g_aload_n (q0 := 49) (j := 0) rfl dX12_readsSaid_48 rfl ?_
        obtain ⟨r49, e49, h⟩ := gI_bd h
        refine g_callVq1 (as := []) (rest := []) mt_X12_here mi_X12_here se_X12_here ml_X12_265 dX12_readsSaid_49 (q0 := 52) rfl rfl (sh_711 hOK) rfl rfl (ok_here hOK e49) rfl ⟨by decide, by decide⟩ (Nat.le_of_ble_eq_true rfl) ⟨Nat.zero_le _, Nat.zero_le _⟩ ?_
        obtain ⟨r52, e52, h⟩ := gI_bd h
        refine g_callSq1 (as := [_]) (rest := []) mt_X12_isSmall ms_X12_isSmall ml_X12_281 dX12_readsSaid_52 (q0 := 55) rfl rfl (ok_isSmall hOK e52) rfl ⟨by decide, by decide⟩ (Nat.le_of_ble_eq_true rfl) ⟨Nat.zero_le _, Nat.zero_le _⟩ ?_
        refine g_if_ne (q0 := 58) (tgt := 87) rfl dX12_readsSaid_55 (by decide) (fun h55 => ?_) (fun h55 => ?_)
        · replace h := gI_neg h55 h
          exact (hk _ _ h).2 _ rfl hOK
        · replace h := gI_pos h55 h
          refine g_aload_n (q0 := 59) (j := 0) rfl dX12_readsSaid_58 rfl ?_
          obtain ⟨r59, e59, h⟩ := gI_bd h
          refine g_callVq1 (as := []) (rest := []) mt_X12_here mi_X12_here se_X12_here ml_X12_265 dX12_readsSaid_59 (q0 := 62) rfl rfl (sh_711 hOK) rfl rfl (ok_here hOK e59) rfl ⟨by decide, by decide⟩ (Nat.le_of_ble_eq_true rfl) ⟨Nat.zero_le _, Nat.zero_le _⟩ ?_
          obtain ⟨r62, e62, h⟩ := gI_bd h
          refine g_callSq1 (as := [_]) (rest := []) mt_X12_isDigit ms_X12_isDigit ml_X12_272 dX12_readsSaid_62 (q0 := 65) rfl rfl (ok_isDigit hOK e62) rfl ⟨by decide, by decide⟩ (Nat.le_of_ble_eq_true rfl) ⟨Nat.zero_le _, Nat.zero_le _⟩ ?_
          refine g_if_ne (q0 := 68) (tgt := 87) rfl dX12_readsSaid_65 (by decide) (fun h65 => ?_) (fun h65 => ?_)
          · replace h := gI_neg h65 h
            exact (hk _ _ h).2 _ rfl hOK
          · replace h := gI_pos h65 h
            refine g_aload_n (q0 := 69) (j := 0) rfl dX12_readsSaid_68 rfl ?_
            obtain ⟨r69, e69, h⟩ := gI_bd h
            refine g_callVq1 (as := []) (rest := []) mt_X12_here mi_X12_here se_X12_here ml_X12_265 dX12_readsSaid_69 (q0 := 72) rfl rfl (sh_711 hOK) rfl rfl (ok_here hOK e69) rfl ⟨by decide, by decide⟩ (Nat.le_of_ble_eq_true rfl) ⟨Nat.zero_le _, Nat.zero_le _⟩ ?_
            refine g_bipush (q0 := 74) rfl dX12_readsSaid_72 (k := ?_)
            refine g_icmp_eq (q0 := 77) (tgt := 87) rfl dX12_readsSaid_74 (by decide) (fun h74 => ?_) (fun h74 => ?_)
            · replace h := gI_pos h74 h
              exact (hk _ _ h).2 _ rfl hOK
            · replace h := gI_neg h74 h
              refine g_aload_n (q0 := 78) (j := 0) rfl dX12_readsSaid_77 rfl ?_
              refine g_iconst (q0 := 79) rfl dX12_readsSaid_78 (k := ?_)
              refine g_aload_n (q0 := 80) (j := 0) rfl dX12_readsSaid_79 rfl ?_
              refine g_getf (q0 := 83) (t := 0) (fi := 19) rfl rfl ff_X12_256 dX12_readsSaid_80 rfl (sh_711 hOK) ?_
              obtain ⟨p83, e83, h⟩ := gI_bd h
              refine g_callVq1 (as := [_, _]) (rest := []) mt_X12_wrongAt mi_X12_wrongAt se_X12_wrongAt ml_X12_269 dX12_readsSaid_83 (q0 := 86) rfl rfl (sh_711 hOK) rfl rfl (ok_wrongAt hOK e83) rfl ⟨by decide, by decide⟩ (Nat.le_of_ble_eq_true rfl) ⟨Nat.zero_le _, Nat.zero_le _⟩ ?_
              have hOK1 : gOK sh p83.2 := gOK_fr hOK (fr_wrongAt (b := p83) e83) (by first | decide | (intro a ha; simp only [List.mem_cons, List.not_mem_nil, or_false] at ha; omega)) (by decide)
              rw [← Option.some.inj h]
              refine g_zreturn dX12_readsSaid_86 rfl (gnz (bo_wrongAt (b := p83) e83)) ⟨Nat.zero_le _, Nat.zero_le _⟩ ?_
              exact ⟨rfl, rfl, rfl⟩
      · replace h := gI_pos h35 h
        refine g_aload_n (q0 := 39) (j := 0) rfl dX12_readsSaid_38 rfl ?_
        refine g_iconst (q0 := 40) rfl dX12_readsSaid_39 (k := ?_)
        refine g_aload_n (q0 := 41) (j := 0) rfl dX12_readsSaid_40 rfl ?_
        refine g_getf (q0 := 44) (t := 0) (fi := 19) rfl rfl ff_X12_256 dX12_readsSaid_41 rfl (sh_711 hOK) ?_
        obtain ⟨p44, e44, h⟩ := gI_bd h
        refine g_callVq1 (as := [_, _]) (rest := []) mt_X12_wrongAt mi_X12_wrongAt se_X12_wrongAt ml_X12_269 dX12_readsSaid_44 (q0 := 47) rfl rfl (sh_711 hOK) rfl rfl (ok_wrongAt hOK e44) rfl ⟨by decide, by decide⟩ (Nat.le_of_ble_eq_true rfl) ⟨Nat.zero_le _, Nat.zero_le _⟩ ?_
        have hOK2 : gOK sh p44.2 := gOK_fr hOK (fr_wrongAt (b := p44) e44) (by first | decide | (intro a ha; simp only [List.mem_cons, List.not_mem_nil, or_false] at ha; omega)) (by decide)
        rw [← Option.some.inj h]
        refine g_zreturn dX12_readsSaid_47 rfl (gnz (bo_wrongAt (b := p44) e44)) ⟨Nat.zero_le _, Nat.zero_le _⟩ ?_
        exact ⟨rfl, rfl, rfl⟩
  · rintro  M rfl hOK
    rw [sk_readsSaid_87] at h
    refine g_aload_n (q0 := 88) (j := 0) rfl dX12_readsSaid_87 rfl ?_
    refine g_getp (q0 := 91) (b := 722) rfl ff_X12_40 dX12_readsSaid_88 rfl hOK (by decide) (sh_711 hOK) rfl (by decide) ?_
    refine g_aload_n (q0 := 92) (j := 0) rfl dX12_readsSaid_91 rfl ?_
    refine g_getf (q0 := 95) (t := 0) (fi := 13) rfl rfl ff_X12_189 dX12_readsSaid_92 rfl (sh_711 hOK) ?_
    refine g_aload_n (q0 := 96) (j := 0) rfl dX12_readsSaid_95 rfl ?_
    obtain ⟨r96, e96, h⟩ := gI_bd h
    refine g_callVq1 (as := []) (rest := [_, _]) mt_X12_here mi_X12_here se_X12_here ml_X12_265 dX12_readsSaid_96 (q0 := 99) rfl rfl (sh_711 hOK) rfl rfl (ok_here hOK e96) rfl ⟨by decide, by decide⟩ (Nat.le_of_ble_eq_true rfl) ⟨Nat.zero_le _, Nat.zero_le _⟩ ?_
    obtain ⟨g3, h⟩ := gI_gd h
    refine g_iast (q0 := 100) rfl dX12_readsSaid_99 (sh_722 hOK) g3.1 g3.2 ?_
    have hOK4 : gOK sh (gU M 722 (M 711 13) r96) := gOK_i hOK (sh_722 hOK)
    refine g_aload_n (q0 := 101) (j := 0) rfl dX12_readsSaid_100 rfl ?_
    refine g_aload_n (q0 := 102) (j := 0) rfl dX12_readsSaid_101 rfl ?_
    refine g_getf (q0 := 105) (t := 0) (fi := 13) rfl rfl ff_X12_189 dX12_readsSaid_102 rfl (sh_711 hOK4) ?_
    refine g_iconst (q0 := 106) rfl dX12_readsSaid_105 (k := ?_)
    refine g_iaddw (q0 := 107) rfl dX12_readsSaid_106 ?_
    refine g_put (q0 := 110) (t := 0) (fi := 13) rfl rfl ff_X12_189 dX12_readsSaid_107 rfl (sh_711 hOK4) rfl (fun _ => ⟨rfl, rfl⟩) ?_
    have hOK5 : gOK sh (gU (gU M 722 (M 711 13) r96) 711 13 (gw32 (((gU M 722 (M 711 13) r96) 711 13) + (1 : Int)))) := gOK_o hOK4 (sh_711 hOK4) (f := 13) rfl rfl
    refine g_aload_n (q0 := 111) (j := 0) rfl dX12_readsSaid_110 rfl ?_
    refine g_aload_n (q0 := 112) (j := 0) rfl dX12_readsSaid_111 rfl ?_
    refine g_getf (q0 := 115) (t := 0) (fi := 19) rfl rfl ff_X12_256 dX12_readsSaid_112 rfl (sh_711 hOK5) ?_
    refine g_iconst (q0 := 116) rfl dX12_readsSaid_115 (k := ?_)
    refine g_iaddw (q0 := 117) rfl dX12_readsSaid_116 ?_
    refine g_put (q0 := 120) (t := 0) (fi := 19) rfl rfl ff_X12_256 dX12_readsSaid_117 rfl (sh_711 hOK5) rfl (fun _ => ⟨rfl, rfl⟩) ?_
    have hOK6 : gOK sh (gU (gU (gU M 722 (M 711 13) r96) 711 13 (gw32 (((gU M 722 (M 711 13) r96) 711 13) + (1 : Int)))) 711 19 (gw32 (((gU (gU M 722 (M 711 13) r96) 711 13 (gw32 (((gU M 722 (M 711 13) r96) 711 13) + (1 : Int)))) 711 19) + (1 : Int)))) := gOK_o hOK5 (sh_711 hOK5) (f := 19) rfl rfl
    refine g_goto (tgt := 21) dX12_readsSaid_120 (by decide) ?_
    exact (hk _ _ h).1 _ rfl hOK6
theorem ok_readsSaid_21 {sh : gS} {M : gM} {b : Int × gM} (hOK : gOK sh M) (h : F_readsSaid_21 M = some b) : gA (gr 2 43) yX12_readsSaid cX12_readsSaid 1 (some (.boolean)) (gPq sh (some (0, b.1)) b.2) (0, 0) 21 [(4, 711)] [] sh M :=
  (okp_readsSaid _ _ h).1 _ rfl hOK
theorem ok_readsSaid_87 {sh : gS} {M : gM} {b : Int × gM} (hOK : gOK sh M) (h : F_readsSaid_87 M = some b) : gA (gr 2 43) yX12_readsSaid cX12_readsSaid 1 (some (.boolean)) (gPq sh (some (0, b.1)) b.2) (0, 0) 87 [(4, 711)] [] sh M :=
  (okp_readsSaid _ _ h).2 _ rfl hOK
theorem ok_readsSaid {sh : gS} {M : gM} {b : Int × gM} (hOK : gOK sh M) (h : F_readsSaid M = some b) : gC (gr 2 43) yX12_readsSaid cX12_readsSaid 1 (some (.boolean)) [(4, 711)] sh M (gPq sh (some (0, b.1)) b.2) := by
  rw [eq_readsSaid] at h
  refine gC_ofA (lv := [_]) (by decide +kernel) (Nat.le_of_ble_eq_true rfl) rfl (fun hMw hav => ?_)
  refine g_aload_n (q0 := 1) (j := 0) rfl dX12_readsSaid_0 rfl ?_
  obtain ⟨r1, e1, h⟩ := gI_bd h
  refine g_callVq1 (as := []) (rest := []) mt_X12_here mi_X12_here se_X12_here ml_X12_265 dX12_readsSaid_1 (q0 := 4) rfl rfl (sh_711 hOK) rfl rfl (ok_here hOK e1) rfl ⟨by decide, by decide⟩ (Nat.le_of_ble_eq_true rfl) ⟨Nat.zero_le _, Nat.zero_le _⟩ ?_
  refine g_iconst (q0 := 5) rfl dX12_readsSaid_4 (k := ?_)
  refine g_icmp_ne (q0 := 8) (tgt := 10) rfl dX12_readsSaid_5 (by decide) (fun h5 => ?_) (fun h5 => ?_)
  · replace h := gI_neg h5 h
    refine g_aload_n (q0 := 11) (j := 0) rfl dX12_readsSaid_10 rfl ?_
    refine g_bipush (q0 := 13) rfl dX12_readsSaid_11 (k := ?_)
    obtain ⟨p13, e13, h⟩ := gI_bd h
    refine g_callVq1 (as := [_]) (rest := []) mt_X12_takesSign mi_X12_takesSign se_X12_takesSign ml_X12_297 dX12_readsSaid_13 (q0 := 16) rfl rfl (sh_711 hOK) rfl rfl (ok_takesSign hOK e13) rfl ⟨by decide, by decide⟩ (Nat.le_of_ble_eq_true rfl) ⟨Nat.zero_le _, Nat.zero_le _⟩ ?_
    have hOK7 : gOK sh p13.2 := gOK_fr hOK (fr_takesSign (b := p13) e13) (by first | decide | (intro a ha; simp only [List.mem_cons, List.not_mem_nil, or_false] at ha; omega)) (by decide)
    refine g_if_ne (q0 := 19) (tgt := 21) rfl dX12_readsSaid_16 (by decide) (fun h16 => ?_) (fun h16 => ?_)
    · replace h := gI_neg h16 h
      exact ok_readsSaid_21 hOK7 h
    · replace h := gI_pos h16 h
      refine g_iconst (q0 := 20) rfl dX12_readsSaid_19 (k := ?_)
      rw [← Option.some.inj h]
      refine g_zreturn dX12_readsSaid_20 rfl (gnz (Or.inl rfl)) ⟨Nat.zero_le _, Nat.zero_le _⟩ ?_
      exact ⟨rfl, rfl, rfl⟩
  · replace h := gI_pos h5 h
    refine g_iconst (q0 := 9) rfl dX12_readsSaid_8 (k := ?_)
    rw [← Option.some.inj h]
    refine g_zreturn dX12_readsSaid_9 rfl (gnz (Or.inr rfl)) ⟨Nat.zero_le _, Nat.zero_le _⟩ ?_
    exact ⟨rfl, rfl, rfl⟩
-- ==== commit
theorem dX12_commit_0 : decode cX12_commit 0 = .ok (.iload_n 1, 1) := by decide +kernel
theorem dX12_commit_1 : decode cX12_commit 1 = .ok (.iconst 1, 1) := by decide +kernel
theorem dX12_commit_2 : decode cX12_commit 2 = .ok (.sipush 160, 3) := by decide +kernel
theorem dX12_commit_5 : decode cX12_commit 5 = .ok (.invokestatic 182, 3) := by decide +kernel
theorem dX12_commit_8 : decode cX12_commit 8 = .ok (.ifCond .eq 32, 3) := by decide +kernel
theorem dX12_commit_11 : decode cX12_commit 11 = .ok (.iload_n 2, 1) := by decide +kernel
theorem dX12_commit_12 : decode cX12_commit 12 = .ok (.iconst 0, 1) := by decide +kernel
theorem dX12_commit_13 : decode cX12_commit 13 = .ok (.bipush 9, 2) := by decide +kernel
theorem dX12_commit_15 : decode cX12_commit 15 = .ok (.invokestatic 182, 3) := by decide +kernel
theorem dX12_commit_18 : decode cX12_commit 18 = .ok (.ifCond .eq 22, 3) := by decide +kernel
theorem dX12_commit_21 : decode cX12_commit 21 = .ok (.iload_n 3, 1) := by decide +kernel
theorem dX12_commit_22 : decode cX12_commit 22 = .ok (.iconst 0, 1) := by decide +kernel
theorem dX12_commit_23 : decode cX12_commit 23 = .ok (.sipush 999, 3) := by decide +kernel
theorem dX12_commit_26 : decode cX12_commit 26 = .ok (.invokestatic 182, 3) := by decide +kernel
theorem dX12_commit_29 : decode cX12_commit 29 = .ok (.ifCond .eq 11, 3) := by decide +kernel
theorem dX12_commit_32 : decode cX12_commit 32 = .ok (.iload_n 1, 1) := by decide +kernel
theorem dX12_commit_33 : decode cX12_commit 33 = .ok (.aload_n 0, 1) := by decide +kernel
theorem dX12_commit_34 : decode cX12_commit 34 = .ok (.getfield 249, 3) := by decide +kernel
theorem dX12_commit_37 : decode cX12_commit 37 = .ok (.if_icmp .le 5, 3) := by decide +kernel
theorem dX12_commit_40 : decode cX12_commit 40 = .ok (.iconst (-1), 1) := by decide +kernel
theorem dX12_commit_41 : decode cX12_commit 41 = .ok (.ireturn, 1) := by decide +kernel
theorem dX12_commit_42 : decode cX12_commit 42 = .ok (.aload_n 0, 1) := by decide +kernel
theorem dX12_commit_43 : decode cX12_commit 43 = .ok (.iload_n 1, 1) := by decide +kernel
theorem dX12_commit_44 : decode cX12_commit 44 = .ok (.invokevirtual 338, 3) := by decide +kernel
theorem dX12_commit_47 : decode cX12_commit 47 = .ok (.aload_n 0, 1) := by decide +kernel
theorem dX12_commit_48 : decode cX12_commit 48 = .ok (.iconst 0, 1) := by decide +kernel
theorem dX12_commit_49 : decode cX12_commit 49 = .ok (.putfield 186, 3) := by decide +kernel
theorem dX12_commit_52 : decode cX12_commit 52 = .ok (.aload_n 0, 1) := by decide +kernel
theorem dX12_commit_53 : decode cX12_commit 53 = .ok (.iconst 0, 1) := by decide +kernel
theorem dX12_commit_54 : decode cX12_commit 54 = .ok (.putfield 189, 3) := by decide +kernel
theorem dX12_commit_57 : decode cX12_commit 57 = .ok (.aload_n 0, 1) := by decide +kernel
theorem dX12_commit_58 : decode cX12_commit 58 = .ok (.invokevirtual 341, 3) := by decide +kernel
theorem dX12_commit_61 : decode cX12_commit 61 = .ok (.ifCond .eq 30, 3) := by decide +kernel
theorem dX12_commit_64 : decode cX12_commit 64 = .ok (.aload_n 0, 1) := by decide +kernel
theorem dX12_commit_65 : decode cX12_commit 65 = .ok (.bipush 58, 2) := by decide +kernel
theorem dX12_commit_67 : decode cX12_commit 67 = .ok (.invokevirtual 297, 3) := by decide +kernel
theorem dX12_commit_70 : decode cX12_commit 70 = .ok (.ifCond .eq 21, 3) := by decide +kernel
theorem dX12_commit_73 : decode cX12_commit 73 = .ok (.aload_n 0, 1) := by decide +kernel
theorem dX12_commit_74 : decode cX12_commit 74 = .ok (.invokevirtual 344, 3) := by decide +kernel
theorem dX12_commit_77 : decode cX12_commit 77 = .ok (.ifCond .eq 14, 3) := by decide +kernel
theorem dX12_commit_80 : decode cX12_commit 80 = .ok (.aload_n 0, 1) := by decide +kernel
theorem dX12_commit_81 : decode cX12_commit 81 = .ok (.invokevirtual 347, 3) := by decide +kernel
theorem dX12_commit_84 : decode cX12_commit 84 = .ok (.ifCond .eq 7, 3) := by decide +kernel
theorem dX12_commit_87 : decode cX12_commit 87 = .ok (.iconst 1, 1) := by decide +kernel
theorem dX12_commit_88 : decode cX12_commit 88 = .ok (.goto 4, 3) := by decide +kernel
theorem dX12_commit_91 : decode cX12_commit 91 = .ok (.iconst 0, 1) := by decide +kernel
theorem dX12_commit_92 : decode cX12_commit 92 = .ok (.istore 4, 2) := by decide +kernel
theorem dX12_commit_94 : decode cX12_commit 94 = .ok (.aload_n 0, 1) := by decide +kernel
theorem dX12_commit_95 : decode cX12_commit 95 = .ok (.iconst 0, 1) := by decide +kernel
theorem dX12_commit_96 : decode cX12_commit 96 = .ok (.putfield 249, 3) := by decide +kernel
theorem dX12_commit_99 : decode cX12_commit 99 = .ok (.iload 4, 2) := by decide +kernel
theorem dX12_commit_101 : decode cX12_commit 101 = .ok (.ifCond .eq 14, 3) := by decide +kernel
theorem dX12_commit_104 : decode cX12_commit 104 = .ok (.aload_n 0, 1) := by decide +kernel
theorem dX12_commit_105 : decode cX12_commit 105 = .ok (.bipush 120, 2) := by decide +kernel
theorem dX12_commit_107 : decode cX12_commit 107 = .ok (.iload_n 2, 1) := by decide +kernel
theorem dX12_commit_108 : decode cX12_commit 108 = .ok (.iload_n 3, 1) := by decide +kernel
theorem dX12_commit_109 : decode cX12_commit 109 = .ok (.invokevirtual 350, 3) := by decide +kernel
theorem dX12_commit_112 : decode cX12_commit 112 = .ok (.goto 7, 3) := by decide +kernel
theorem dX12_commit_115 : decode cX12_commit 115 = .ok (.aload_n 0, 1) := by decide +kernel
theorem dX12_commit_116 : decode cX12_commit 116 = .ok (.getfield 262, 3) := by decide +kernel
theorem dX12_commit_119 : decode cX12_commit 119 = .ok (.ireturn, 1) := by decide +kernel
noncomputable def st_commit : Nat × List Int × gM → Option ((Nat × List Int × gM) ⊕ (Int × gM))
  | (0, [x1, x2, x3], M) => some (.inr (((gU M 711 18 0) 711 21), (gU M 711 18 0)))
  | _ => none
theorem sk_commit_91 (k : Nat × List Int × gM → Option (Int × gM)) (M : gM) (x1 x2 x3 : Int) : gWk k (st_commit (0, [x1, x2, x3], M)) = some (((gU M 711 18 0) 711 21), (gU M 711 18 0)) := by
  simp only [st_commit, gWk_ite, gWk_bind, gWk_inl, gWk_inr, gWk_none]
noncomputable def F_commit_91 (M : gM) (x1 x2 x3 : Int) : Option (Int × gM) := gWh (st_commit) (0, [x1, x2, x3], M)
theorem eq_commit_91 (M : gM) (x1 x2 x3 : Int) : F_commit_91 M x1 x2 x3 = some (((gU M 711 18 0) 711 21), (gU M 711 18 0)) := (gWh_eq _).trans (sk_commit_91 _ M x1 x2 x3)
noncomputable def F_commit (M : gM) (a1 a2 a3 : Int) : Option (Int × gM) := (Option.bind (F_in a1 1 160) (fun r5 =>
    (if r5 = 0 then
      some (-1, M)
    else
      (Option.bind (F_in a2 0 9) (fun r15 =>
        (if r15 = 0 then
          some (-1, M)
        else
          (Option.bind (F_in a3 0 999) (fun r26 =>
            (if r26 = 0 then
              some (-1, M)
            else
              (if (M 711 18) < a1 then
                some (-1, M)
              else
                (Option.bind (F_beginsText M a1) (fun m44 =>
                  (Option.bind (F_readsParents (gU (gU m44 711 12 0) 711 13 0)) (fun p58 =>
                    (if p58.1 = 0 then
                      F_commit_91 p58.2 a1 a2 a3
                    else
                      (Option.bind (F_takesSign p58.2 58) (fun p67 =>
                        (if p67.1 = 0 then
                          F_commit_91 p67.2 a1 a2 a3
                        else
                          (Option.bind (F_readsEdits p67.2) (fun p74 =>
                            (if p74.1 = 0 then
                              F_commit_91 p74.2 a1 a2 a3
                            else
                              (Option.bind (F_readsSaid p74.2) (fun p81 =>
                                (if p81.1 = 0 then
                                  F_commit_91 p81.2 a1 a2 a3
                                else
                                  (Option.bind (F_comes (gU p81.2 711 18 0) 120 a2 a3) (fun p109 =>
                                    some (p109.1, p109.2)))))))))))))))))))))))))))
theorem eq_commit (M : gM) (a1 a2 a3 : Int) : F_commit M a1 a2 a3 = (Option.bind (F_in a1 1 160) (fun r5 =>
    (if r5 = 0 then
      some (-1, M)
    else
      (Option.bind (F_in a2 0 9) (fun r15 =>
        (if r15 = 0 then
          some (-1, M)
        else
          (Option.bind (F_in a3 0 999) (fun r26 =>
            (if r26 = 0 then
              some (-1, M)
            else
              (if (M 711 18) < a1 then
                some (-1, M)
              else
                (Option.bind (F_beginsText M a1) (fun m44 =>
                  (Option.bind (F_readsParents (gU (gU m44 711 12 0) 711 13 0)) (fun p58 =>
                    (if p58.1 = 0 then
                      F_commit_91 p58.2 a1 a2 a3
                    else
                      (Option.bind (F_takesSign p58.2 58) (fun p67 =>
                        (if p67.1 = 0 then
                          F_commit_91 p67.2 a1 a2 a3
                        else
                          (Option.bind (F_readsEdits p67.2) (fun p74 =>
                            (if p74.1 = 0 then
                              F_commit_91 p74.2 a1 a2 a3
                            else
                              (Option.bind (F_readsSaid p74.2) (fun p81 =>
                                (if p81.1 = 0 then
                                  F_commit_91 p81.2 a1 a2 a3
                                else
                                  (Option.bind (F_comes (gU p81.2 711 18 0) 120 a2 a3) (fun p109 =>
                                    some (p109.1, p109.2))))))))))))))))))))))))))) := rfl
theorem frp_commit : ∀ (s : Nat × List Int × gM) (b : Int × gM), gWh (st_commit) s = some b → (∀ (x1 x2 x3 : Int) (M : gM), s = (0, [x1, x2, x3], M) → gFr [712, 713, 714, 715, 716, 717, 718, 719, 720, 721, 722] [0, 12, 13, 18, 19, 20, 21, 22, 23] M b.2) := by
  refine gWh_ind (fun k hk s b h => ?_)
  · rintro x1 x2 x3 M rfl
    rw [sk_commit_91] at h
    rw [← Option.some.inj h]
    exact (gFr_f (gFr_r [712, 713, 714, 715, 716, 717, 718, 719, 720, 721, 722] [0, 12, 13, 18, 19, 20, 21, 22, 23] _) (.tail _ (.tail _ (.tail _ (.head _)))))
theorem fr_commit_91 {M : gM} {x1 x2 x3 : Int} {b : Int × gM} (h : F_commit_91 M x1 x2 x3 = some b) : gFr [712, 713, 714, 715, 716, 717, 718, 719, 720, 721, 722] [0, 12, 13, 18, 19, 20, 21, 22, 23] M b.2 :=
  (frp_commit _ _ h) _ _ _ _ rfl
theorem fr_commit {M : gM} {a1 a2 a3 : Int} {b : Int × gM} (h : F_commit M a1 a2 a3 = some b) : gFr [712, 713, 714, 715, 716, 717, 718, 719, 720, 721, 722] [0, 12, 13, 18, 19, 20, 21, 22, 23] M b.2 := by
  rw [eq_commit] at h
  obtain ⟨r5, e5, h⟩ := gI_bd h
  rcases gI_or h with h | h
  · rw [← Option.some.inj h]
    exact (gFr_r [712, 713, 714, 715, 716, 717, 718, 719, 720, 721, 722] [0, 12, 13, 18, 19, 20, 21, 22, 23] _)
  · obtain ⟨r15, e15, h⟩ := gI_bd h
    rcases gI_or h with h | h
    · rw [← Option.some.inj h]
      exact (gFr_r [712, 713, 714, 715, 716, 717, 718, 719, 720, 721, 722] [0, 12, 13, 18, 19, 20, 21, 22, 23] _)
    · obtain ⟨r26, e26, h⟩ := gI_bd h
      rcases gI_or h with h | h
      · rw [← Option.some.inj h]
        exact (gFr_r [712, 713, 714, 715, 716, 717, 718, 719, 720, 721, 722] [0, 12, 13, 18, 19, 20, 21, 22, 23] _)
      · rcases gI_or h with h | h
        · rw [← Option.some.inj h]
          exact (gFr_r [712, 713, 714, 715, 716, 717, 718, 719, 720, 721, 722] [0, 12, 13, 18, 19, 20, 21, 22, 23] _)
        · obtain ⟨m44, e44, h⟩ := gI_bd h
          obtain ⟨p58, e58, h⟩ := gI_bd h
          rcases gI_or h with h | h
          · exact gFr_t (gFr_t (gFr_f (gFr_f (gFr_t (gFr_r [712, 713, 714, 715, 716, 717, 718, 719, 720, 721, 722] [0, 12, 13, 18, 19, 20, 21, 22, 23] _) (fr_beginsText (b := m44) e44) (by first | decide | simp) (by decide)) (.tail _ (.head _))) (.tail _ (.tail _ (.head _)))) (fr_readsParents (b := p58) e58) (by first | decide | simp) (by decide)) (fr_commit_91 h) (fun _ z => z) (fun _ z => z)
          · obtain ⟨p67, e67, h⟩ := gI_bd h
            rcases gI_or h with h | h
            · exact gFr_t (gFr_t (gFr_t (gFr_f (gFr_f (gFr_t (gFr_r [712, 713, 714, 715, 716, 717, 718, 719, 720, 721, 722] [0, 12, 13, 18, 19, 20, 21, 22, 23] _) (fr_beginsText (b := m44) e44) (by first | decide | simp) (by decide)) (.tail _ (.head _))) (.tail _ (.tail _ (.head _)))) (fr_readsParents (b := p58) e58) (by first | decide | simp) (by decide)) (fr_takesSign (b := p67) e67) (by first | decide | simp) (by decide)) (fr_commit_91 h) (fun _ z => z) (fun _ z => z)
            · obtain ⟨p74, e74, h⟩ := gI_bd h
              rcases gI_or h with h | h
              · exact gFr_t (gFr_t (gFr_t (gFr_t (gFr_f (gFr_f (gFr_t (gFr_r [712, 713, 714, 715, 716, 717, 718, 719, 720, 721, 722] [0, 12, 13, 18, 19, 20, 21, 22, 23] _) (fr_beginsText (b := m44) e44) (by first | decide | simp) (by decide)) (.tail _ (.head _))) (.tail _ (.tail _ (.head _)))) (fr_readsParents (b := p58) e58) (by first | decide | simp) (by decide)) (fr_takesSign (b := p67) e67) (by first | decide | simp) (by decide)) (fr_readsEdits (b := p74) e74) (by first | decide | simp) (by decide)) (fr_commit_91 h) (fun _ z => z) (fun _ z => z)
              · obtain ⟨p81, e81, h⟩ := gI_bd h
                rcases gI_or h with h | h
                · exact gFr_t (gFr_t (gFr_t (gFr_t (gFr_t (gFr_f (gFr_f (gFr_t (gFr_r [712, 713, 714, 715, 716, 717, 718, 719, 720, 721, 722] [0, 12, 13, 18, 19, 20, 21, 22, 23] _) (fr_beginsText (b := m44) e44) (by first | decide | simp) (by decide)) (.tail _ (.head _))) (.tail _ (.tail _ (.head _)))) (fr_readsParents (b := p58) e58) (by first | decide | simp) (by decide)) (fr_takesSign (b := p67) e67) (by first | decide | simp) (by decide)) (fr_readsEdits (b := p74) e74) (by first | decide | simp) (by decide)) (fr_readsSaid (b := p81) e81) (by first | decide | simp) (by decide)) (fr_commit_91 h) (fun _ z => z) (fun _ z => z)
                · obtain ⟨p109, e109, h⟩ := gI_bd h
                  rw [← Option.some.inj h]
                  exact (gFr_t (gFr_f (gFr_t (gFr_t (gFr_t (gFr_t (gFr_f (gFr_f (gFr_t (gFr_r [712, 713, 714, 715, 716, 717, 718, 719, 720, 721, 722] [0, 12, 13, 18, 19, 20, 21, 22, 23] _) (fr_beginsText (b := m44) e44) (by first | decide | simp) (by decide)) (.tail _ (.head _))) (.tail _ (.tail _ (.head _)))) (fr_readsParents (b := p58) e58) (by first | decide | simp) (by decide)) (fr_takesSign (b := p67) e67) (by first | decide | simp) (by decide)) (fr_readsEdits (b := p74) e74) (by first | decide | simp) (by decide)) (fr_readsSaid (b := p81) e81) (by first | decide | simp) (by decide)) (.tail _ (.tail _ (.tail _ (.head _))))) (fr_comes (b := p109) e109) (by first | decide | simp) (by decide))
theorem okp_commit {sh : gS} : ∀ (s : Nat × List Int × gM) (b : Int × gM), gWh (st_commit) s = some b → (∀ (x1 x2 x3 : Int) (M : gM), s = (0, [x1, x2, x3], M) → gOK sh M → gA (gr 8 176) yX12_commit cX12_commit 5 (some (.int)) (gPq sh (some (0, b.1)) b.2) (0, 0) 91 [(4, 711), (0, x1), (0, x2), (0, x3), (9, 0)] [] sh M) := by
  refine gWh_ind (fun k hk s b h => ?_)
  · rintro x1 x2 x3 M rfl hOK
    rw [sk_commit_91] at h
    refine g_iconst (q0 := 92) rfl dX12_commit_91 (k := ?_)
    refine g_istore (q0 := 94) (j := 4) (lv2 := [_, _, _, _, _]) rfl dX12_commit_92 (by decide) rfl rfl ?_
    refine g_aload_n (q0 := 95) (j := 0) rfl dX12_commit_94 rfl ?_
    refine g_iconst (q0 := 96) rfl dX12_commit_95 (k := ?_)
    refine g_put (q0 := 99) (t := 0) (fi := 18) rfl rfl ff_X12_249 dX12_commit_96 rfl (sh_711 hOK) rfl (fun _ => ⟨rfl, rfl⟩) ?_
    have hOK1 : gOK sh (gU M 711 18 0) := gOK_o hOK (sh_711 hOK) (f := 18) rfl rfl
    refine g_iload (q0 := 101) (j := 4) rfl dX12_commit_99 rfl ?_
    refine g_if_eq (q0 := 104) (tgt := 115) rfl dX12_commit_101 (by decide) (fun h101 => ?_) (fun h101 => ?_)
    · refine g_aload_n (q0 := 116) (j := 0) rfl dX12_commit_115 rfl ?_
      refine g_getf (q0 := 119) (t := 0) (fi := 21) rfl rfl ff_X12_262 dX12_commit_116 rfl (sh_711 hOK1) ?_
      rw [← Option.some.inj h]
      refine g_ireturn dX12_commit_119 rfl ⟨Nat.zero_le _, Nat.zero_le _⟩ ?_
      exact ⟨rfl, rfl, rfl⟩
    · exact absurd h101 (by decide)
theorem ok_commit_91 {sh : gS} {M : gM} {x1 x2 x3 : Int} {b : Int × gM} (hOK : gOK sh M) (h : F_commit_91 M x1 x2 x3 = some b) : gA (gr 8 176) yX12_commit cX12_commit 5 (some (.int)) (gPq sh (some (0, b.1)) b.2) (0, 0) 91 [(4, 711), (0, x1), (0, x2), (0, x3), (9, 0)] [] sh M :=
  (okp_commit _ _ h) _ _ _ _ rfl hOK
theorem ok_commit {sh : gS} {M : gM} {a1 a2 a3 : Int} {b : Int × gM} (hOK : gOK sh M) (h : F_commit M a1 a2 a3 = some b) : gC (gr 8 176) yX12_commit cX12_commit 5 (some (.int)) [(4, 711), (0, a1), (0, a2), (0, a3)] sh M (gPq sh (some (0, b.1)) b.2) := by
  rw [eq_commit] at h
  refine gC_ofA (lv := [_, _, _, _, _]) (by decide +kernel) (Nat.le_of_ble_eq_true rfl) rfl (fun hMw hav => ?_)
  refine g_iload_n (q0 := 1) (j := 1) rfl dX12_commit_0 rfl ?_
  refine g_iconst (q0 := 2) rfl dX12_commit_1 (k := ?_)
  refine g_sipush (q0 := 5) rfl dX12_commit_2 (k := ?_)
  obtain ⟨r5, e5, h⟩ := gI_bd h
  refine g_callSq1 (as := [_, _, _]) (rest := []) mt_X12_in ms_X12_in ml_X12_182 dX12_commit_5 (q0 := 8) rfl rfl (ok_in hOK e5) rfl ⟨by decide, by decide⟩ (Nat.le_of_ble_eq_true rfl) ⟨Nat.zero_le _, Nat.zero_le _⟩ ?_
  refine g_if_eq (q0 := 11) (tgt := 40) rfl dX12_commit_8 (by decide) (fun h8 => ?_) (fun h8 => ?_)
  · replace h := gI_pos h8 h
    refine g_iconst (q0 := 41) rfl dX12_commit_40 (k := ?_)
    rw [← Option.some.inj h]
    refine g_ireturn dX12_commit_41 rfl ⟨Nat.zero_le _, Nat.zero_le _⟩ ?_
    exact ⟨rfl, rfl, rfl⟩
  · replace h := gI_neg h8 h
    refine g_iload_n (q0 := 12) (j := 2) rfl dX12_commit_11 rfl ?_
    refine g_iconst (q0 := 13) rfl dX12_commit_12 (k := ?_)
    refine g_bipush (q0 := 15) rfl dX12_commit_13 (k := ?_)
    obtain ⟨r15, e15, h⟩ := gI_bd h
    refine g_callSq1 (as := [_, _, _]) (rest := []) mt_X12_in ms_X12_in ml_X12_182 dX12_commit_15 (q0 := 18) rfl rfl (ok_in hOK e15) rfl ⟨by decide, by decide⟩ (Nat.le_of_ble_eq_true rfl) ⟨Nat.zero_le _, Nat.zero_le _⟩ ?_
    refine g_if_eq (q0 := 21) (tgt := 40) rfl dX12_commit_18 (by decide) (fun h18 => ?_) (fun h18 => ?_)
    · replace h := gI_pos h18 h
      refine g_iconst (q0 := 41) rfl dX12_commit_40 (k := ?_)
      rw [← Option.some.inj h]
      refine g_ireturn dX12_commit_41 rfl ⟨Nat.zero_le _, Nat.zero_le _⟩ ?_
      exact ⟨rfl, rfl, rfl⟩
    · replace h := gI_neg h18 h
      refine g_iload_n (q0 := 22) (j := 3) rfl dX12_commit_21 rfl ?_
      refine g_iconst (q0 := 23) rfl dX12_commit_22 (k := ?_)
      refine g_sipush (q0 := 26) rfl dX12_commit_23 (k := ?_)
      obtain ⟨r26, e26, h⟩ := gI_bd h
      refine g_callSq1 (as := [_, _, _]) (rest := []) mt_X12_in ms_X12_in ml_X12_182 dX12_commit_26 (q0 := 29) rfl rfl (ok_in hOK e26) rfl ⟨by decide, by decide⟩ (Nat.le_of_ble_eq_true rfl) ⟨Nat.zero_le _, Nat.zero_le _⟩ ?_
      refine g_if_eq (q0 := 32) (tgt := 40) rfl dX12_commit_29 (by decide) (fun h29 => ?_) (fun h29 => ?_)
      · replace h := gI_pos h29 h
        refine g_iconst (q0 := 41) rfl dX12_commit_40 (k := ?_)
        rw [← Option.some.inj h]
        refine g_ireturn dX12_commit_41 rfl ⟨Nat.zero_le _, Nat.zero_le _⟩ ?_
        exact ⟨rfl, rfl, rfl⟩
      · replace h := gI_neg h29 h
        refine g_iload_n (q0 := 33) (j := 1) rfl dX12_commit_32 rfl ?_
        refine g_aload_n (q0 := 34) (j := 0) rfl dX12_commit_33 rfl ?_
        refine g_getf (q0 := 37) (t := 0) (fi := 18) rfl rfl ff_X12_249 dX12_commit_34 rfl (sh_711 hOK) ?_
        refine g_icmp_le (q0 := 40) (tgt := 42) rfl dX12_commit_37 (by decide) (fun h37 => ?_) (fun h37 => ?_)
        · replace h := gI_neg (Int.not_lt.mpr h37) h
          refine g_aload_n (q0 := 43) (j := 0) rfl dX12_commit_42 rfl ?_
          refine g_iload_n (q0 := 44) (j := 1) rfl dX12_commit_43 rfl ?_
          obtain ⟨m44, e44, h⟩ := gI_bd h
          refine g_callVq0 (as := [_]) (rest := []) mt_X12_beginsText mi_X12_beginsText se_X12_beginsText ml_X12_338 dX12_commit_44 (q0 := 47) rfl rfl (sh_711 hOK) rfl rfl (ok_beginsText hOK e44) rfl ⟨by decide, by decide⟩ (Nat.le_of_ble_eq_true rfl) ⟨Nat.zero_le _, Nat.zero_le _⟩ ?_
          have hOK2 : gOK sh m44 := gOK_fr hOK (fr_beginsText (b := m44) e44) (by first | decide | (intro a ha; simp only [List.mem_cons, List.not_mem_nil, or_false] at ha; omega)) (by decide)
          refine g_aload_n (q0 := 48) (j := 0) rfl dX12_commit_47 rfl ?_
          refine g_iconst (q0 := 49) rfl dX12_commit_48 (k := ?_)
          refine g_put (q0 := 52) (t := 0) (fi := 12) rfl rfl ff_X12_186 dX12_commit_49 rfl (sh_711 hOK2) rfl (fun _ => ⟨rfl, rfl⟩) ?_
          have hOK3 : gOK sh (gU m44 711 12 0) := gOK_o hOK2 (sh_711 hOK2) (f := 12) rfl rfl
          refine g_aload_n (q0 := 53) (j := 0) rfl dX12_commit_52 rfl ?_
          refine g_iconst (q0 := 54) rfl dX12_commit_53 (k := ?_)
          refine g_put (q0 := 57) (t := 0) (fi := 13) rfl rfl ff_X12_189 dX12_commit_54 rfl (sh_711 hOK3) rfl (fun _ => ⟨rfl, rfl⟩) ?_
          have hOK4 : gOK sh (gU (gU m44 711 12 0) 711 13 0) := gOK_o hOK3 (sh_711 hOK3) (f := 13) rfl rfl
          refine g_aload_n (q0 := 58) (j := 0) rfl dX12_commit_57 rfl ?_
          obtain ⟨p58, e58, h⟩ := gI_bd h
          refine g_callVq1 (as := []) (rest := []) mt_X12_readsParents mi_X12_readsParents se_X12_readsParents ml_X12_341 dX12_commit_58 (q0 := 61) rfl rfl (sh_711 hOK4) rfl rfl (ok_readsParents hOK4 e58) rfl ⟨by decide, by decide⟩ (Nat.le_of_ble_eq_true rfl) ⟨Nat.zero_le _, Nat.zero_le _⟩ ?_
          have hOK5 : gOK sh p58.2 := gOK_fr hOK4 (fr_readsParents (b := p58) e58) (by first | decide | (intro a ha; simp only [List.mem_cons, List.not_mem_nil, or_false] at ha; omega)) (by decide)
          refine g_if_eq (q0 := 64) (tgt := 91) rfl dX12_commit_61 (by decide) (fun h61 => ?_) (fun h61 => ?_)
          · replace h := gI_pos h61 h
            exact ok_commit_91 hOK5 h
          · replace h := gI_neg h61 h
            refine g_aload_n (q0 := 65) (j := 0) rfl dX12_commit_64 rfl ?_
            refine g_bipush (q0 := 67) rfl dX12_commit_65 (k := ?_)
            obtain ⟨p67, e67, h⟩ := gI_bd h
            refine g_callVq1 (as := [_]) (rest := []) mt_X12_takesSign mi_X12_takesSign se_X12_takesSign ml_X12_297 dX12_commit_67 (q0 := 70) rfl rfl (sh_711 hOK5) rfl rfl (ok_takesSign hOK5 e67) rfl ⟨by decide, by decide⟩ (Nat.le_of_ble_eq_true rfl) ⟨Nat.zero_le _, Nat.zero_le _⟩ ?_
            have hOK6 : gOK sh p67.2 := gOK_fr hOK5 (fr_takesSign (b := p67) e67) (by first | decide | (intro a ha; simp only [List.mem_cons, List.not_mem_nil, or_false] at ha; omega)) (by decide)
            refine g_if_eq (q0 := 73) (tgt := 91) rfl dX12_commit_70 (by decide) (fun h70 => ?_) (fun h70 => ?_)
            · replace h := gI_pos h70 h
              exact ok_commit_91 hOK6 h
            · replace h := gI_neg h70 h
              refine g_aload_n (q0 := 74) (j := 0) rfl dX12_commit_73 rfl ?_
              obtain ⟨p74, e74, h⟩ := gI_bd h
              refine g_callVq1 (as := []) (rest := []) mt_X12_readsEdits mi_X12_readsEdits se_X12_readsEdits ml_X12_344 dX12_commit_74 (q0 := 77) rfl rfl (sh_711 hOK6) rfl rfl (ok_readsEdits hOK6 e74) rfl ⟨by decide, by decide⟩ (Nat.le_of_ble_eq_true rfl) ⟨Nat.zero_le _, Nat.zero_le _⟩ ?_
              have hOK7 : gOK sh p74.2 := gOK_fr hOK6 (fr_readsEdits (b := p74) e74) (by first | decide | (intro a ha; simp only [List.mem_cons, List.not_mem_nil, or_false] at ha; omega)) (by decide)
              refine g_if_eq (q0 := 80) (tgt := 91) rfl dX12_commit_77 (by decide) (fun h77 => ?_) (fun h77 => ?_)
              · replace h := gI_pos h77 h
                exact ok_commit_91 hOK7 h
              · replace h := gI_neg h77 h
                refine g_aload_n (q0 := 81) (j := 0) rfl dX12_commit_80 rfl ?_
                obtain ⟨p81, e81, h⟩ := gI_bd h
                refine g_callVq1 (as := []) (rest := []) mt_X12_readsSaid mi_X12_readsSaid se_X12_readsSaid ml_X12_347 dX12_commit_81 (q0 := 84) rfl rfl (sh_711 hOK7) rfl rfl (ok_readsSaid hOK7 e81) rfl ⟨by decide, by decide⟩ (Nat.le_of_ble_eq_true rfl) ⟨Nat.zero_le _, Nat.zero_le _⟩ ?_
                have hOK8 : gOK sh p81.2 := gOK_fr hOK7 (fr_readsSaid (b := p81) e81) (by first | decide | (intro a ha; simp only [List.mem_cons, List.not_mem_nil, or_false] at ha; omega)) (by decide)
                refine g_if_eq (q0 := 87) (tgt := 91) rfl dX12_commit_84 (by decide) (fun h84 => ?_) (fun h84 => ?_)
                · replace h := gI_pos h84 h
                  exact ok_commit_91 hOK8 h
                · replace h := gI_neg h84 h
                  refine g_iconst (q0 := 88) rfl dX12_commit_87 (k := ?_)
                  refine g_goto (tgt := 92) dX12_commit_88 (by decide) ?_
                  refine g_istore (q0 := 94) (j := 4) (lv2 := [_, _, _, _, _]) rfl dX12_commit_92 (by decide) rfl rfl ?_
                  refine g_aload_n (q0 := 95) (j := 0) rfl dX12_commit_94 rfl ?_
                  refine g_iconst (q0 := 96) rfl dX12_commit_95 (k := ?_)
                  refine g_put (q0 := 99) (t := 0) (fi := 18) rfl rfl ff_X12_249 dX12_commit_96 rfl (sh_711 hOK8) rfl (fun _ => ⟨rfl, rfl⟩) ?_
                  have hOK9 : gOK sh (gU p81.2 711 18 0) := gOK_o hOK8 (sh_711 hOK8) (f := 18) rfl rfl
                  refine g_iload (q0 := 101) (j := 4) rfl dX12_commit_99 rfl ?_
                  refine g_if_eq (q0 := 104) (tgt := 115) rfl dX12_commit_101 (by decide) (fun h101 => ?_) (fun h101 => ?_)
                  · exact absurd h101 (by decide)
                  · refine g_aload_n (q0 := 105) (j := 0) rfl dX12_commit_104 rfl ?_
                    refine g_bipush (q0 := 107) rfl dX12_commit_105 (k := ?_)
                    refine g_iload_n (q0 := 108) (j := 2) rfl dX12_commit_107 rfl ?_
                    refine g_iload_n (q0 := 109) (j := 3) rfl dX12_commit_108 rfl ?_
                    obtain ⟨p109, e109, h⟩ := gI_bd h
                    refine g_callVq1 (as := [_, _, _]) (rest := []) mt_X12_comes mi_X12_comes se_X12_comes ml_X12_350 dX12_commit_109 (q0 := 112) rfl rfl (sh_711 hOK9) rfl rfl (ok_comes hOK9 e109) rfl ⟨by decide, by decide⟩ (Nat.le_of_ble_eq_true rfl) ⟨Nat.zero_le _, Nat.zero_le _⟩ ?_
                    have hOK10 : gOK sh p109.2 := gOK_fr hOK9 (fr_comes (b := p109) e109) (by first | decide | (intro a ha; simp only [List.mem_cons, List.not_mem_nil, or_false] at ha; omega)) (by decide)
                    refine g_goto (tgt := 119) dX12_commit_112 (by decide) ?_
                    rw [← Option.some.inj h]
                    refine g_ireturn dX12_commit_119 rfl ⟨Nat.zero_le _, Nat.zero_le _⟩ ?_
                    exact ⟨rfl, rfl, rfl⟩
        · replace h := gI_pos h37 h
          refine g_iconst (q0 := 41) rfl dX12_commit_40 (k := ?_)
          rw [← Option.some.inj h]
          refine g_ireturn dX12_commit_41 rfl ⟨Nat.zero_le _, Nat.zero_le _⟩ ?_
          exact ⟨rfl, rfl, rfl⟩
-- ==== isHistory
theorem dX12_isHistory_0 : decode cX12_isHistory 0 = .ok (.iload_n 0, 1) := by decide +kernel
theorem dX12_isHistory_1 : decode cX12_isHistory 1 = .ok (.iconst 0, 1) := by decide +kernel
theorem dX12_isHistory_2 : decode cX12_isHistory 2 = .ok (.iconst 3, 1) := by decide +kernel
theorem dX12_isHistory_3 : decode cX12_isHistory 3 = .ok (.invokestatic 182, 3) := by decide +kernel
theorem dX12_isHistory_6 : decode cX12_isHistory 6 = .ok (.ireturn, 1) := by decide +kernel
noncomputable def F_isHistory (a0 : Int) : Option (Int) := (Option.bind (F_in a0 0 3) (fun r3 =>
    some r3))
theorem eq_isHistory (a0 : Int) : F_isHistory a0 = (Option.bind (F_in a0 0 3) (fun r3 =>
    some r3)) := rfl
theorem bo_isHistory {a0 : Int} {b : Int} (h : F_isHistory a0 = some b) : b = 0 ∨ b = 1 := by
  rw [eq_isHistory] at h
  obtain ⟨r3, e3, h⟩ := gI_bd h
  rw [← Option.some.inj h]
  exact (bo_in (b := r3) e3)
theorem ok_isHistory {sh : gS} {M : gM} {a0 : Int} {b : Int} (hOK : gOK sh M) (h : F_isHistory a0 = some b) : gC (gr 1 22) yX12_isHistory cX12_isHistory 1 (some (.boolean)) [(0, a0)] sh M (gPq sh (some (0, b)) M) := by
  rw [eq_isHistory] at h
  refine gC_ofA (lv := [_]) (by decide +kernel) (Nat.le_of_ble_eq_true rfl) rfl (fun hMw hav => ?_)
  refine g_iload_n (q0 := 1) (j := 0) rfl dX12_isHistory_0 rfl ?_
  refine g_iconst (q0 := 2) rfl dX12_isHistory_1 (k := ?_)
  refine g_iconst (q0 := 3) rfl dX12_isHistory_2 (k := ?_)
  obtain ⟨r3, e3, h⟩ := gI_bd h
  refine g_callSq1 (as := [_, _, _]) (rest := []) mt_X12_in ms_X12_in ml_X12_182 dX12_isHistory_3 (q0 := 6) rfl rfl (ok_in hOK e3) rfl ⟨by decide, by decide⟩ (Nat.le_of_ble_eq_true rfl) ⟨Nat.zero_le _, Nat.zero_le _⟩ ?_
  rw [← Option.some.inj h]
  refine g_zreturn dX12_isHistory_6 rfl (gnz (bo_in (b := r3) e3)) ⟨Nat.zero_le _, Nat.zero_le _⟩ ?_
  exact ⟨rfl, rfl, rfl⟩
-- ==== refs
theorem dX12_refs_0 : decode cX12_refs 0 = .ok (.iconst 0, 1) := by decide +kernel
theorem dX12_refs_1 : decode cX12_refs 1 = .ok (.istore_n 2, 1) := by decide +kernel
theorem dX12_refs_2 : decode cX12_refs 2 = .ok (.iconst 0, 1) := by decide +kernel
theorem dX12_refs_3 : decode cX12_refs 3 = .ok (.istore_n 3, 1) := by decide +kernel
theorem dX12_refs_4 : decode cX12_refs 4 = .ok (.iload_n 3, 1) := by decide +kernel
theorem dX12_refs_5 : decode cX12_refs 5 = .ok (.bipush 52, 2) := by decide +kernel
theorem dX12_refs_7 : decode cX12_refs 7 = .ok (.if_icmp .ge 28, 3) := by decide +kernel
theorem dX12_refs_10 : decode cX12_refs 10 = .ok (.aload_n 0, 1) := by decide +kernel
theorem dX12_refs_11 : decode cX12_refs 11 = .ok (.getfield 57, 3) := by decide +kernel
theorem dX12_refs_14 : decode cX12_refs 14 = .ok (.bipush 52, 2) := by decide +kernel
theorem dX12_refs_16 : decode cX12_refs 16 = .ok (.iload_n 1, 1) := by decide +kernel
theorem dX12_refs_17 : decode cX12_refs 17 = .ok (.imul, 1) := by decide +kernel
theorem dX12_refs_18 : decode cX12_refs 18 = .ok (.iload_n 3, 1) := by decide +kernel
theorem dX12_refs_19 : decode cX12_refs 19 = .ok (.iadd, 1) := by decide +kernel
theorem dX12_refs_20 : decode cX12_refs 20 = .ok (.iaload, 1) := by decide +kernel
theorem dX12_refs_21 : decode cX12_refs 21 = .ok (.iconst (-1), 1) := by decide +kernel
theorem dX12_refs_22 : decode cX12_refs 22 = .ok (.if_icmp .eq 7, 3) := by decide +kernel
theorem dX12_refs_25 : decode cX12_refs 25 = .ok (.iload_n 2, 1) := by decide +kernel
theorem dX12_refs_26 : decode cX12_refs 26 = .ok (.iconst 1, 1) := by decide +kernel
theorem dX12_refs_27 : decode cX12_refs 27 = .ok (.iadd, 1) := by decide +kernel
theorem dX12_refs_28 : decode cX12_refs 28 = .ok (.istore_n 2, 1) := by decide +kernel
theorem dX12_refs_29 : decode cX12_refs 29 = .ok (.iinc 3 1, 3) := by decide +kernel
theorem dX12_refs_32 : decode cX12_refs 32 = .ok (.goto (-28), 3) := by decide +kernel
theorem dX12_refs_35 : decode cX12_refs 35 = .ok (.iload_n 2, 1) := by decide +kernel
theorem dX12_refs_36 : decode cX12_refs 36 = .ok (.ireturn, 1) := by decide +kernel
noncomputable def st_refs (M : gM) : Nat × List Int → Option ((Nat × List Int) ⊕ (Int))
  | (0, [x1, x2, x3]) => (if x3 < 52 then
      (if 0 ≤ (gw32 ((gw32 ((52 : Int) * x1)) + x3)) ∧ (gw32 ((gw32 ((52 : Int) * x1)) + x3)) < 208 then
        (if (M 727 (gw32 ((gw32 ((52 : Int) * x1)) + x3))) = -1 then
          some (.inl (0, [x1, x2, (gw32 (x3 + 1))]))
        else
          some (.inl (0, [x1, (gw32 (x2 + (1 : Int))), (gw32 (x3 + 1))])))
      else none)
    else
      some (.inr x2))
  | _ => none
theorem sk_refs_4 (k : Nat × List Int → Option (Int)) (M : gM) (x1 x2 x3 : Int) : gWk k (st_refs M (0, [x1, x2, x3])) = (if x3 < 52 then
    (if 0 ≤ (gw32 ((gw32 ((52 : Int) * x1)) + x3)) ∧ (gw32 ((gw32 ((52 : Int) * x1)) + x3)) < 208 then
      (if (M 727 (gw32 ((gw32 ((52 : Int) * x1)) + x3))) = -1 then
        k (0, [x1, x2, (gw32 (x3 + 1))])
      else
        k (0, [x1, (gw32 (x2 + (1 : Int))), (gw32 (x3 + 1))]))
    else none)
  else
    some x2) := by
  simp only [st_refs, gWk_ite, gWk_bind, gWk_inl, gWk_inr, gWk_none]
noncomputable def F_refs_4 (M : gM) (x1 x2 x3 : Int) : Option (Int) := gWh (st_refs M) (0, [x1, x2, x3])
theorem eq_refs_4 (M : gM) (x1 x2 x3 : Int) : F_refs_4 M x1 x2 x3 = (if x3 < 52 then
    (if 0 ≤ (gw32 ((gw32 ((52 : Int) * x1)) + x3)) ∧ (gw32 ((gw32 ((52 : Int) * x1)) + x3)) < 208 then
      (if (M 727 (gw32 ((gw32 ((52 : Int) * x1)) + x3))) = -1 then
        F_refs_4 M x1 x2 (gw32 (x3 + 1))
      else
        F_refs_4 M x1 (gw32 (x2 + (1 : Int))) (gw32 (x3 + 1)))
    else none)
  else
    some x2) := (gWh_eq _).trans (sk_refs_4 _ M x1 x2 x3)
noncomputable def F_refs (M : gM) (a1 : Int) : Option (Int) := F_refs_4 M a1 0 0
theorem eq_refs (M : gM) (a1 : Int) : F_refs M a1 = F_refs_4 M a1 0 0 := rfl
theorem okp_refs {sh : gS} {M : gM} : ∀ (s : Nat × List Int) (b : Int), gWh (st_refs M) s = some b → (∀ (x1 x2 x3 : Int), s = (0, [x1, x2, x3]) → gOK sh M → gA (gr 0 0) yX12_refs cX12_refs 4 (some (.int)) (gPq sh (some (0, b)) M) (0, 0) 4 [(4, 711), (0, x1), (0, x2), (0, x3)] [] sh M) := by
  refine gWh_ind (fun k hk s b h => ?_)
  · rintro x1 x2 x3 rfl hOK
    rw [sk_refs_4] at h
    refine g_iload_n (q0 := 5) (j := 3) rfl dX12_refs_4 rfl ?_
    refine g_bipush (q0 := 7) rfl dX12_refs_5 (k := ?_)
    refine g_icmp_ge (q0 := 10) (tgt := 35) rfl dX12_refs_7 (by decide) (fun h7 => ?_) (fun h7 => ?_)
    · replace h := gI_neg (Int.not_lt.mpr h7) h
      refine g_iload_n (q0 := 36) (j := 2) rfl dX12_refs_35 rfl ?_
      rw [← Option.some.inj h]
      refine g_ireturn dX12_refs_36 rfl ⟨Nat.zero_le _, Nat.zero_le _⟩ ?_
      exact ⟨rfl, rfl, rfl⟩
    · replace h := gI_pos h7 h
      refine g_aload_n (q0 := 11) (j := 0) rfl dX12_refs_10 rfl ?_
      refine g_getp (q0 := 14) (b := 727) rfl ff_X12_57 dX12_refs_11 rfl hOK (by decide) (sh_711 hOK) rfl (by decide) ?_
      refine g_bipush (q0 := 16) rfl dX12_refs_14 (k := ?_)
      refine g_iload_n (q0 := 17) (j := 1) rfl dX12_refs_16 rfl ?_
      refine g_imulw (q0 := 18) rfl dX12_refs_17 ?_
      refine g_iload_n (q0 := 19) (j := 3) rfl dX12_refs_18 rfl ?_
      refine g_iaddw (q0 := 20) rfl dX12_refs_19 ?_
      obtain ⟨g1, h⟩ := gI_gd h
      refine g_iald (q0 := 21) rfl dX12_refs_20 (sh_727 hOK) g1.1 g1.2 ?_
      refine g_iconst (q0 := 22) rfl dX12_refs_21 (k := ?_)
      refine g_icmp_eq (q0 := 25) (tgt := 29) rfl dX12_refs_22 (by decide) (fun h22 => ?_) (fun h22 => ?_)
      · replace h := gI_pos h22 h
        refine g_iincw (q0 := 32) (lv2 := [_, _, _, _]) rfl dX12_refs_29 rfl (by decide) rfl rfl ?_
        refine g_goto (tgt := 4) dX12_refs_32 (by decide) ?_
        exact (hk _ _ h) _ _ _ rfl hOK
      · replace h := gI_neg h22 h
        refine g_iload_n (q0 := 26) (j := 2) rfl dX12_refs_25 rfl ?_
        refine g_iconst (q0 := 27) rfl dX12_refs_26 (k := ?_)
        refine g_iaddw (q0 := 28) rfl dX12_refs_27 ?_
        refine g_istore_n (q0 := 29) (j := 2) (lv2 := [_, _, _, _]) rfl dX12_refs_28 (by decide) rfl rfl ?_
        refine g_iincw (q0 := 32) (lv2 := [_, _, _, _]) rfl dX12_refs_29 rfl (by decide) rfl rfl ?_
        refine g_goto (tgt := 4) dX12_refs_32 (by decide) ?_
        exact (hk _ _ h) _ _ _ rfl hOK
theorem ok_refs_4 {sh : gS} {M : gM} {x1 x2 x3 : Int} {b : Int} (hOK : gOK sh M) (h : F_refs_4 M x1 x2 x3 = some b) : gA (gr 0 0) yX12_refs cX12_refs 4 (some (.int)) (gPq sh (some (0, b)) M) (0, 0) 4 [(4, 711), (0, x1), (0, x2), (0, x3)] [] sh M :=
  (okp_refs _ _ h) _ _ _ rfl hOK
theorem ok_refs {sh : gS} {M : gM} {a1 : Int} {b : Int} (hOK : gOK sh M) (h : F_refs M a1 = some b) : gC (gr 0 0) yX12_refs cX12_refs 4 (some (.int)) [(4, 711), (0, a1)] sh M (gPq sh (some (0, b)) M) := by
  rw [eq_refs] at h
  refine gC_ofA (lv := [_, _, _, _]) (by decide +kernel) (Nat.le_of_ble_eq_true rfl) rfl (fun hMw hav => ?_)
  refine g_iconst (q0 := 1) rfl dX12_refs_0 (k := ?_)
  refine g_istore_n (q0 := 2) (j := 2) (lv2 := [_, _, _, _]) rfl dX12_refs_1 (by decide) rfl rfl ?_
  refine g_iconst (q0 := 3) rfl dX12_refs_2 (k := ?_)
  refine g_istore_n (q0 := 4) (j := 3) (lv2 := [_, _, _, _]) rfl dX12_refs_3 (by decide) rfl rfl ?_
  exact ok_refs_4 hOK h
-- ==== laysRef
theorem dX12_laysRef_0 : decode cX12_laysRef 0 = .ok (.aload_n 0, 1) := by decide +kernel
theorem dX12_laysRef_1 : decode cX12_laysRef 1 = .ok (.getfield 57, 3) := by decide +kernel
theorem dX12_laysRef_4 : decode cX12_laysRef 4 = .ok (.bipush 52, 2) := by decide +kernel
theorem dX12_laysRef_6 : decode cX12_laysRef 6 = .ok (.iload_n 1, 1) := by decide +kernel
theorem dX12_laysRef_7 : decode cX12_laysRef 7 = .ok (.imul, 1) := by decide +kernel
theorem dX12_laysRef_8 : decode cX12_laysRef 8 = .ok (.iload_n 2, 1) := by decide +kernel
theorem dX12_laysRef_9 : decode cX12_laysRef 9 = .ok (.iadd, 1) := by decide +kernel
theorem dX12_laysRef_10 : decode cX12_laysRef 10 = .ok (.iload_n 3, 1) := by decide +kernel
theorem dX12_laysRef_11 : decode cX12_laysRef 11 = .ok (.iastore, 1) := by decide +kernel
theorem dX12_laysRef_12 : decode cX12_laysRef 12 = .ok (.aload_n 0, 1) := by decide +kernel
theorem dX12_laysRef_13 : decode cX12_laysRef 13 = .ok (.getfield 60, 3) := by decide +kernel
theorem dX12_laysRef_16 : decode cX12_laysRef 16 = .ok (.bipush 52, 2) := by decide +kernel
theorem dX12_laysRef_18 : decode cX12_laysRef 18 = .ok (.iload_n 1, 1) := by decide +kernel
theorem dX12_laysRef_19 : decode cX12_laysRef 19 = .ok (.imul, 1) := by decide +kernel
theorem dX12_laysRef_20 : decode cX12_laysRef 20 = .ok (.iload_n 2, 1) := by decide +kernel
theorem dX12_laysRef_21 : decode cX12_laysRef 21 = .ok (.iadd, 1) := by decide +kernel
theorem dX12_laysRef_22 : decode cX12_laysRef 22 = .ok (.iload_n 3, 1) := by decide +kernel
theorem dX12_laysRef_23 : decode cX12_laysRef 23 = .ok (.iconst (-1), 1) := by decide +kernel
theorem dX12_laysRef_24 : decode cX12_laysRef 24 = .ok (.if_icmp .ne 7, 3) := by decide +kernel
theorem dX12_laysRef_27 : decode cX12_laysRef 27 = .ok (.iconst (-1), 1) := by decide +kernel
theorem dX12_laysRef_28 : decode cX12_laysRef 28 = .ok (.goto 5, 3) := by decide +kernel
theorem dX12_laysRef_31 : decode cX12_laysRef 31 = .ok (.iload 4, 2) := by decide +kernel
theorem dX12_laysRef_33 : decode cX12_laysRef 33 = .ok (.iastore, 1) := by decide +kernel
theorem dX12_laysRef_34 : decode cX12_laysRef 34 = .ok (.return_, 1) := by decide +kernel
noncomputable def F_laysRef (M : gM) (a1 a2 a3 a4 : Int) : Option (gM) := (if 0 ≤ (gw32 ((gw32 ((52 : Int) * a1)) + a2)) ∧ (gw32 ((gw32 ((52 : Int) * a1)) + a2)) < 208 then
    (if a3 = -1 then
      some (gU (gU M 727 (gw32 ((gw32 ((52 : Int) * a1)) + a2)) a3) 728 (gw32 ((gw32 ((52 : Int) * a1)) + a2)) (-1))
    else
      some (gU (gU M 727 (gw32 ((gw32 ((52 : Int) * a1)) + a2)) a3) 728 (gw32 ((gw32 ((52 : Int) * a1)) + a2)) a4))
  else none)
theorem eq_laysRef (M : gM) (a1 a2 a3 a4 : Int) : F_laysRef M a1 a2 a3 a4 = (if 0 ≤ (gw32 ((gw32 ((52 : Int) * a1)) + a2)) ∧ (gw32 ((gw32 ((52 : Int) * a1)) + a2)) < 208 then
    (if a3 = -1 then
      some (gU (gU M 727 (gw32 ((gw32 ((52 : Int) * a1)) + a2)) a3) 728 (gw32 ((gw32 ((52 : Int) * a1)) + a2)) (-1))
    else
      some (gU (gU M 727 (gw32 ((gw32 ((52 : Int) * a1)) + a2)) a3) 728 (gw32 ((gw32 ((52 : Int) * a1)) + a2)) a4))
  else none) := rfl
theorem fr_laysRef {M : gM} {a1 a2 a3 a4 : Int} {b : gM} (h : F_laysRef M a1 a2 a3 a4 = some b) : gFr [727, 728] [] M b := by
  rw [eq_laysRef] at h
  obtain ⟨g1, h⟩ := gI_gd h
  rcases gI_or h with h | h
  · rw [← Option.some.inj h]
    exact (gFr_a (gFr_a (gFr_r [727, 728] [] _) (.head _) (by decide)) (.tail _ (.head _)) (by decide))
  · rw [← Option.some.inj h]
    exact (gFr_a (gFr_a (gFr_r [727, 728] [] _) (.head _) (by decide)) (.tail _ (.head _)) (by decide))
theorem ok_laysRef {sh : gS} {M : gM} {a1 a2 a3 a4 : Int} {b : gM} (hOK : gOK sh M) (h : F_laysRef M a1 a2 a3 a4 = some b) : gC (gr 0 0) yX12_laysRef cX12_laysRef 5 none [(4, 711), (0, a1), (0, a2), (0, a3), (0, a4)] sh M (gPq sh none b) := by
  rw [eq_laysRef] at h
  refine gC_ofA (lv := [_, _, _, _, _]) (by decide +kernel) (Nat.le_of_ble_eq_true rfl) rfl (fun hMw hav => ?_)
  refine g_aload_n (q0 := 1) (j := 0) rfl dX12_laysRef_0 rfl ?_
  refine g_getp (q0 := 4) (b := 727) rfl ff_X12_57 dX12_laysRef_1 rfl hOK (by decide) (sh_711 hOK) rfl (by decide) ?_
  refine g_bipush (q0 := 6) rfl dX12_laysRef_4 (k := ?_)
  refine g_iload_n (q0 := 7) (j := 1) rfl dX12_laysRef_6 rfl ?_
  refine g_imulw (q0 := 8) rfl dX12_laysRef_7 ?_
  refine g_iload_n (q0 := 9) (j := 2) rfl dX12_laysRef_8 rfl ?_
  refine g_iaddw (q0 := 10) rfl dX12_laysRef_9 ?_
  refine g_iload_n (q0 := 11) (j := 3) rfl dX12_laysRef_10 rfl ?_
  obtain ⟨g1, h⟩ := gI_gd h
  refine g_iast (q0 := 12) rfl dX12_laysRef_11 (sh_727 hOK) g1.1 g1.2 ?_
  have hOK2 : gOK sh (gU M 727 (gw32 ((gw32 ((52 : Int) * a1)) + a2)) a3) := gOK_i hOK (sh_727 hOK)
  refine g_aload_n (q0 := 13) (j := 0) rfl dX12_laysRef_12 rfl ?_
  refine g_getp (q0 := 16) (b := 728) rfl ff_X12_60 dX12_laysRef_13 rfl hOK2 (by decide) (sh_711 hOK2) rfl (by decide) ?_
  refine g_bipush (q0 := 18) rfl dX12_laysRef_16 (k := ?_)
  refine g_iload_n (q0 := 19) (j := 1) rfl dX12_laysRef_18 rfl ?_
  refine g_imulw (q0 := 20) rfl dX12_laysRef_19 ?_
  refine g_iload_n (q0 := 21) (j := 2) rfl dX12_laysRef_20 rfl ?_
  refine g_iaddw (q0 := 22) rfl dX12_laysRef_21 ?_
  refine g_iload_n (q0 := 23) (j := 3) rfl dX12_laysRef_22 rfl ?_
  refine g_iconst (q0 := 24) rfl dX12_laysRef_23 (k := ?_)
  refine g_icmp_ne (q0 := 27) (tgt := 31) rfl dX12_laysRef_24 (by decide) (fun h24 => ?_) (fun h24 => ?_)
  · replace h := gI_neg h24 h
    refine g_iload (q0 := 33) (j := 4) rfl dX12_laysRef_31 rfl ?_
    refine g_iast (q0 := 34) rfl dX12_laysRef_33 (sh_728 hOK2) g1.1 g1.2 ?_
    have hOK3 : gOK sh (gU (gU M 727 (gw32 ((gw32 ((52 : Int) * a1)) + a2)) a3) 728 (gw32 ((gw32 ((52 : Int) * a1)) + a2)) a4) := gOK_i hOK2 (sh_728 hOK2)
    rw [← Option.some.inj h]
    refine g_return dX12_laysRef_34 rfl ⟨Nat.zero_le _, Nat.zero_le _⟩ ?_
    exact ⟨rfl, rfl, rfl⟩
  · replace h := gI_pos h24 h
    refine g_iconst (q0 := 28) rfl dX12_laysRef_27 (k := ?_)
    refine g_goto (tgt := 33) dX12_laysRef_28 (by decide) ?_
    refine g_iast (q0 := 34) rfl dX12_laysRef_33 (sh_728 hOK2) g1.1 g1.2 ?_
    have hOK4 : gOK sh (gU (gU M 727 (gw32 ((gw32 ((52 : Int) * a1)) + a2)) a3) 728 (gw32 ((gw32 ((52 : Int) * a1)) + a2)) (-1)) := gOK_i hOK2 (sh_728 hOK2)
    rw [← Option.some.inj h]
    refine g_return dX12_laysRef_34 rfl ⟨Nat.zero_le _, Nat.zero_le _⟩ ?_
    exact ⟨rfl, rfl, rfl⟩
-- ==== ref
theorem dX12_ref_0 : decode cX12_ref 0 = .ok (.iload_n 1, 1) := by decide +kernel
theorem dX12_ref_1 : decode cX12_ref 1 = .ok (.invokestatic 353, 3) := by decide +kernel
theorem dX12_ref_4 : decode cX12_ref 4 = .ok (.ifCond .eq 37, 3) := by decide +kernel
theorem dX12_ref_7 : decode cX12_ref 7 = .ok (.iload_n 2, 1) := by decide +kernel
theorem dX12_ref_8 : decode cX12_ref 8 = .ok (.iconst 0, 1) := by decide +kernel
theorem dX12_ref_9 : decode cX12_ref 9 = .ok (.iconst 1, 1) := by decide +kernel
theorem dX12_ref_10 : decode cX12_ref 10 = .ok (.invokestatic 182, 3) := by decide +kernel
theorem dX12_ref_13 : decode cX12_ref 13 = .ok (.ifCond .eq 28, 3) := by decide +kernel
theorem dX12_ref_16 : decode cX12_ref 16 = .ok (.iload_n 3, 1) := by decide +kernel
theorem dX12_ref_17 : decode cX12_ref 17 = .ok (.iconst 0, 1) := by decide +kernel
theorem dX12_ref_18 : decode cX12_ref 18 = .ok (.bipush 25, 2) := by decide +kernel
theorem dX12_ref_20 : decode cX12_ref 20 = .ok (.invokestatic 182, 3) := by decide +kernel
theorem dX12_ref_23 : decode cX12_ref 23 = .ok (.ifCond .eq 18, 3) := by decide +kernel
theorem dX12_ref_26 : decode cX12_ref 26 = .ok (.iload 4, 2) := by decide +kernel
theorem dX12_ref_28 : decode cX12_ref 28 = .ok (.iconst (-1), 1) := by decide +kernel
theorem dX12_ref_29 : decode cX12_ref 29 = .ok (.aload_n 0, 1) := by decide +kernel
theorem dX12_ref_30 : decode cX12_ref 30 = .ok (.getfield 178, 3) := by decide +kernel
theorem dX12_ref_33 : decode cX12_ref 33 = .ok (.iconst 1, 1) := by decide +kernel
theorem dX12_ref_34 : decode cX12_ref 34 = .ok (.isub, 1) := by decide +kernel
theorem dX12_ref_35 : decode cX12_ref 35 = .ok (.invokestatic 182, 3) := by decide +kernel
theorem dX12_ref_38 : decode cX12_ref 38 = .ok (.ifCond .ne 5, 3) := by decide +kernel
theorem dX12_ref_41 : decode cX12_ref 41 = .ok (.iconst (-1), 1) := by decide +kernel
theorem dX12_ref_42 : decode cX12_ref 42 = .ok (.ireturn, 1) := by decide +kernel
theorem dX12_ref_43 : decode cX12_ref 43 = .ok (.bipush 26, 2) := by decide +kernel
theorem dX12_ref_45 : decode cX12_ref 45 = .ok (.iload_n 2, 1) := by decide +kernel
theorem dX12_ref_46 : decode cX12_ref 46 = .ok (.imul, 1) := by decide +kernel
theorem dX12_ref_47 : decode cX12_ref 47 = .ok (.iload_n 3, 1) := by decide +kernel
theorem dX12_ref_48 : decode cX12_ref 48 = .ok (.iadd, 1) := by decide +kernel
theorem dX12_ref_49 : decode cX12_ref 49 = .ok (.istore 5, 2) := by decide +kernel
theorem dX12_ref_51 : decode cX12_ref 51 = .ok (.aload_n 0, 1) := by decide +kernel
theorem dX12_ref_52 : decode cX12_ref 52 = .ok (.getfield 57, 3) := by decide +kernel
theorem dX12_ref_55 : decode cX12_ref 55 = .ok (.bipush 52, 2) := by decide +kernel
theorem dX12_ref_57 : decode cX12_ref 57 = .ok (.iload_n 1, 1) := by decide +kernel
theorem dX12_ref_58 : decode cX12_ref 58 = .ok (.imul, 1) := by decide +kernel
theorem dX12_ref_59 : decode cX12_ref 59 = .ok (.iload 5, 2) := by decide +kernel
theorem dX12_ref_61 : decode cX12_ref 61 = .ok (.iadd, 1) := by decide +kernel
theorem dX12_ref_62 : decode cX12_ref 62 = .ok (.iaload, 1) := by decide +kernel
theorem dX12_ref_63 : decode cX12_ref 63 = .ok (.iconst (-1), 1) := by decide +kernel
theorem dX12_ref_64 : decode cX12_ref 64 = .ok (.if_icmp .eq 7, 3) := by decide +kernel
theorem dX12_ref_67 : decode cX12_ref 67 = .ok (.iconst 1, 1) := by decide +kernel
theorem dX12_ref_68 : decode cX12_ref 68 = .ok (.goto 4, 3) := by decide +kernel
theorem dX12_ref_71 : decode cX12_ref 71 = .ok (.iconst 0, 1) := by decide +kernel
theorem dX12_ref_72 : decode cX12_ref 72 = .ok (.istore 6, 2) := by decide +kernel
theorem dX12_ref_74 : decode cX12_ref 74 = .ok (.iload 4, 2) := by decide +kernel
theorem dX12_ref_76 : decode cX12_ref 76 = .ok (.iconst (-1), 1) := by decide +kernel
theorem dX12_ref_77 : decode cX12_ref 77 = .ok (.if_icmp .ne 11, 3) := by decide +kernel
theorem dX12_ref_80 : decode cX12_ref 80 = .ok (.iload 6, 2) := by decide +kernel
theorem dX12_ref_82 : decode cX12_ref 82 = .ok (.ifCond .ne 6, 3) := by decide +kernel
theorem dX12_ref_85 : decode cX12_ref 85 = .ok (.bipush (-4), 2) := by decide +kernel
theorem dX12_ref_87 : decode cX12_ref 87 = .ok (.ireturn, 1) := by decide +kernel
theorem dX12_ref_88 : decode cX12_ref 88 = .ok (.iload 4, 2) := by decide +kernel
theorem dX12_ref_90 : decode cX12_ref 90 = .ok (.iconst (-1), 1) := by decide +kernel
theorem dX12_ref_91 : decode cX12_ref 91 = .ok (.if_icmp .eq 21, 3) := by decide +kernel
theorem dX12_ref_94 : decode cX12_ref 94 = .ok (.iload 6, 2) := by decide +kernel
theorem dX12_ref_96 : decode cX12_ref 96 = .ok (.ifCond .ne 16, 3) := by decide +kernel
theorem dX12_ref_99 : decode cX12_ref 99 = .ok (.aload_n 0, 1) := by decide +kernel
theorem dX12_ref_100 : decode cX12_ref 100 = .ok (.iload_n 1, 1) := by decide +kernel
theorem dX12_ref_101 : decode cX12_ref 101 = .ok (.invokevirtual 356, 3) := by decide +kernel
theorem dX12_ref_104 : decode cX12_ref 104 = .ok (.bipush 8, 2) := by decide +kernel
theorem dX12_ref_106 : decode cX12_ref 106 = .ok (.if_icmp .ne 6, 3) := by decide +kernel
theorem dX12_ref_109 : decode cX12_ref 109 = .ok (.bipush (-5), 2) := by decide +kernel
theorem dX12_ref_111 : decode cX12_ref 111 = .ok (.ireturn, 1) := by decide +kernel
theorem dX12_ref_112 : decode cX12_ref 112 = .ok (.aload_n 0, 1) := by decide +kernel
theorem dX12_ref_113 : decode cX12_ref 113 = .ok (.iload_n 1, 1) := by decide +kernel
theorem dX12_ref_114 : decode cX12_ref 114 = .ok (.iload 5, 2) := by decide +kernel
theorem dX12_ref_116 : decode cX12_ref 116 = .ok (.iload 4, 2) := by decide +kernel
theorem dX12_ref_118 : decode cX12_ref 118 = .ok (.iconst (-1), 1) := by decide +kernel
theorem dX12_ref_119 : decode cX12_ref 119 = .ok (.invokevirtual 359, 3) := by decide +kernel
theorem dX12_ref_122 : decode cX12_ref 122 = .ok (.aload_n 0, 1) := by decide +kernel
theorem dX12_ref_123 : decode cX12_ref 123 = .ok (.iload_n 1, 1) := by decide +kernel
theorem dX12_ref_124 : decode cX12_ref 124 = .ok (.invokevirtual 356, 3) := by decide +kernel
theorem dX12_ref_127 : decode cX12_ref 127 = .ok (.ireturn, 1) := by decide +kernel
noncomputable def st_ref : Nat × List Int × gM → Option ((Nat × List Int × gM) ⊕ (Int × gM))
  | (0, [x1, x2, x3, x4, x5, x6], M) => (if x4 = -1 then
      (Option.bind (F_laysRef M x1 x5 x4 (-1)) (fun m119 =>
        (Option.bind (F_refs m119 x1) (fun r124 =>
          some (.inr (r124, m119))))))
    else
      (if x6 = 0 then
        (Option.bind (F_refs M x1) (fun r101 =>
          (if r101 = 8 then
            some (.inr (-5, M))
          else
            (Option.bind (F_laysRef M x1 x5 x4 (-1)) (fun m119 =>
              (Option.bind (F_refs m119 x1) (fun r124 =>
                some (.inr (r124, m119)))))))))
      else
        (Option.bind (F_laysRef M x1 x5 x4 (-1)) (fun m119 =>
          (Option.bind (F_refs m119 x1) (fun r124 =>
            some (.inr (r124, m119))))))))
  | _ => none
theorem sk_ref_88 (k : Nat × List Int × gM → Option (Int × gM)) (M : gM) (x1 x2 x3 x4 x5 x6 : Int) : gWk k (st_ref (0, [x1, x2, x3, x4, x5, x6], M)) = (if x4 = -1 then
    (Option.bind (F_laysRef M x1 x5 x4 (-1)) (fun m119 =>
      (Option.bind (F_refs m119 x1) (fun r124 =>
        some (r124, m119)))))
  else
    (if x6 = 0 then
      (Option.bind (F_refs M x1) (fun r101 =>
        (if r101 = 8 then
          some (-5, M)
        else
          (Option.bind (F_laysRef M x1 x5 x4 (-1)) (fun m119 =>
            (Option.bind (F_refs m119 x1) (fun r124 =>
              some (r124, m119))))))))
    else
      (Option.bind (F_laysRef M x1 x5 x4 (-1)) (fun m119 =>
        (Option.bind (F_refs m119 x1) (fun r124 =>
          some (r124, m119))))))) := by
  simp only [st_ref, gWk_ite, gWk_bind, gWk_inl, gWk_inr, gWk_none]
noncomputable def F_ref_88 (M : gM) (x1 x2 x3 x4 x5 x6 : Int) : Option (Int × gM) := gWh (st_ref) (0, [x1, x2, x3, x4, x5, x6], M)
theorem eq_ref_88 (M : gM) (x1 x2 x3 x4 x5 x6 : Int) : F_ref_88 M x1 x2 x3 x4 x5 x6 = (if x4 = -1 then
    (Option.bind (F_laysRef M x1 x5 x4 (-1)) (fun m119 =>
      (Option.bind (F_refs m119 x1) (fun r124 =>
        some (r124, m119)))))
  else
    (if x6 = 0 then
      (Option.bind (F_refs M x1) (fun r101 =>
        (if r101 = 8 then
          some (-5, M)
        else
          (Option.bind (F_laysRef M x1 x5 x4 (-1)) (fun m119 =>
            (Option.bind (F_refs m119 x1) (fun r124 =>
              some (r124, m119))))))))
    else
      (Option.bind (F_laysRef M x1 x5 x4 (-1)) (fun m119 =>
        (Option.bind (F_refs m119 x1) (fun r124 =>
          some (r124, m119))))))) := (gWh_eq _).trans (sk_ref_88 _ M x1 x2 x3 x4 x5 x6)
noncomputable def F_ref (M : gM) (a1 a2 a3 a4 : Int) : Option (Int × gM) := (Option.bind (F_isHistory a1) (fun r1 =>
    (if r1 = 0 then
      some (-1, M)
    else
      (Option.bind (F_in a2 0 1) (fun r10 =>
        (if r10 = 0 then
          some (-1, M)
        else
          (Option.bind (F_in a3 0 25) (fun r20 =>
            (if r20 = 0 then
              some (-1, M)
            else
              (Option.bind (F_in a4 (-1) (gw32 ((M 711 0) - (1 : Int)))) (fun r35 =>
                (if r35 = 0 then
                  some (-1, M)
                else
                  (if 0 ≤ (gw32 ((gw32 ((52 : Int) * a1)) + (gw32 ((gw32 ((26 : Int) * a2)) + a3)))) ∧ (gw32 ((gw32 ((52 : Int) * a1)) + (gw32 ((gw32 ((26 : Int) * a2)) + a3)))) < 208 then
                    (if (M 727 (gw32 ((gw32 ((52 : Int) * a1)) + (gw32 ((gw32 ((26 : Int) * a2)) + a3))))) = -1 then
                      (if a4 = -1 then
                        some (-4, M)
                      else
                        F_ref_88 M a1 a2 a3 a4 (gw32 ((gw32 ((26 : Int) * a2)) + a3)) 0)
                    else
                      (if a4 = -1 then
                        F_ref_88 M a1 a2 a3 a4 (gw32 ((gw32 ((26 : Int) * a2)) + a3)) 1
                      else
                        F_ref_88 M a1 a2 a3 a4 (gw32 ((gw32 ((26 : Int) * a2)) + a3)) 1))
                  else none)))))))))))))
theorem eq_ref (M : gM) (a1 a2 a3 a4 : Int) : F_ref M a1 a2 a3 a4 = (Option.bind (F_isHistory a1) (fun r1 =>
    (if r1 = 0 then
      some (-1, M)
    else
      (Option.bind (F_in a2 0 1) (fun r10 =>
        (if r10 = 0 then
          some (-1, M)
        else
          (Option.bind (F_in a3 0 25) (fun r20 =>
            (if r20 = 0 then
              some (-1, M)
            else
              (Option.bind (F_in a4 (-1) (gw32 ((M 711 0) - (1 : Int)))) (fun r35 =>
                (if r35 = 0 then
                  some (-1, M)
                else
                  (if 0 ≤ (gw32 ((gw32 ((52 : Int) * a1)) + (gw32 ((gw32 ((26 : Int) * a2)) + a3)))) ∧ (gw32 ((gw32 ((52 : Int) * a1)) + (gw32 ((gw32 ((26 : Int) * a2)) + a3)))) < 208 then
                    (if (M 727 (gw32 ((gw32 ((52 : Int) * a1)) + (gw32 ((gw32 ((26 : Int) * a2)) + a3))))) = -1 then
                      (if a4 = -1 then
                        some (-4, M)
                      else
                        F_ref_88 M a1 a2 a3 a4 (gw32 ((gw32 ((26 : Int) * a2)) + a3)) 0)
                    else
                      (if a4 = -1 then
                        F_ref_88 M a1 a2 a3 a4 (gw32 ((gw32 ((26 : Int) * a2)) + a3)) 1
                      else
                        F_ref_88 M a1 a2 a3 a4 (gw32 ((gw32 ((26 : Int) * a2)) + a3)) 1))
                  else none))))))))))))) := rfl
theorem frp_ref : ∀ (s : Nat × List Int × gM) (b : Int × gM), gWh (st_ref) s = some b → (∀ (x1 x2 x3 x4 x5 x6 : Int) (M : gM), s = (0, [x1, x2, x3, x4, x5, x6], M) → gFr [727, 728] [] M b.2) := by
  refine gWh_ind (fun k hk s b h => ?_)
  · rintro x1 x2 x3 x4 x5 x6 M rfl
    rw [sk_ref_88] at h
    rcases gI_or h with h | h
    · obtain ⟨m119, e119, h⟩ := gI_bd h
      obtain ⟨r124, e124, h⟩ := gI_bd h
      rw [← Option.some.inj h]
      exact (gFr_t (gFr_r [727, 728] [] _) (fr_laysRef (b := m119) e119) (by first | decide | simp) (by decide))
    · rcases gI_or h with h | h
      · obtain ⟨r101, e101, h⟩ := gI_bd h
        rcases gI_or h with h | h
        · rw [← Option.some.inj h]
          exact (gFr_r [727, 728] [] _)
        · obtain ⟨m119, e119, h⟩ := gI_bd h
          obtain ⟨r124, e124, h⟩ := gI_bd h
          rw [← Option.some.inj h]
          exact (gFr_t (gFr_r [727, 728] [] _) (fr_laysRef (b := m119) e119) (by first | decide | simp) (by decide))
      · obtain ⟨m119, e119, h⟩ := gI_bd h
        obtain ⟨r124, e124, h⟩ := gI_bd h
        rw [← Option.some.inj h]
        exact (gFr_t (gFr_r [727, 728] [] _) (fr_laysRef (b := m119) e119) (by first | decide | simp) (by decide))
theorem fr_ref_88 {M : gM} {x1 x2 x3 x4 x5 x6 : Int} {b : Int × gM} (h : F_ref_88 M x1 x2 x3 x4 x5 x6 = some b) : gFr [727, 728] [] M b.2 :=
  (frp_ref _ _ h) _ _ _ _ _ _ _ rfl
theorem fr_ref {M : gM} {a1 a2 a3 a4 : Int} {b : Int × gM} (h : F_ref M a1 a2 a3 a4 = some b) : gFr [727, 728] [] M b.2 := by
  rw [eq_ref] at h
  obtain ⟨r1, e1, h⟩ := gI_bd h
  rcases gI_or h with h | h
  · rw [← Option.some.inj h]
    exact (gFr_r [727, 728] [] _)
  · obtain ⟨r10, e10, h⟩ := gI_bd h
    rcases gI_or h with h | h
    · rw [← Option.some.inj h]
      exact (gFr_r [727, 728] [] _)
    · obtain ⟨r20, e20, h⟩ := gI_bd h
      rcases gI_or h with h | h
      · rw [← Option.some.inj h]
        exact (gFr_r [727, 728] [] _)
      · obtain ⟨r35, e35, h⟩ := gI_bd h
        rcases gI_or h with h | h
        · rw [← Option.some.inj h]
          exact (gFr_r [727, 728] [] _)
        · obtain ⟨g4, h⟩ := gI_gd h
          rcases gI_or h with h | h
          · rcases gI_or h with h | h
            · rw [← Option.some.inj h]
              exact (gFr_r [727, 728] [] _)
            · exact gFr_t (gFr_r [727, 728] [] _) (fr_ref_88 h) (fun _ z => z) (fun _ z => z)
          · rcases gI_or h with h | h
            · exact gFr_t (gFr_r [727, 728] [] _) (fr_ref_88 h) (fun _ z => z) (fun _ z => z)
            · exact gFr_t (gFr_r [727, 728] [] _) (fr_ref_88 h) (fun _ z => z) (fun _ z => z)
theorem okp_ref {sh : gS} : ∀ (s : Nat × List Int × gM) (b : Int × gM), gWh (st_ref) s = some b → (∀ (x1 x2 x3 x4 x5 x6 : Int) (M : gM), s = (0, [x1, x2, x3, x4, x5, x6], M) → gOK sh M → gA (gr 2 42) yX12_ref cX12_ref 7 (some (.int)) (gPq sh (some (0, b.1)) b.2) (0, 0) 88 [(4, 711), (0, x1), (0, x2), (0, x3), (0, x4), (0, x5), (0, x6)] [] sh M) := by
  refine gWh_ind (fun k hk s b h => ?_)
  · rintro x1 x2 x3 x4 x5 x6 M rfl hOK
    rw [sk_ref_88] at h
    refine g_iload (q0 := 90) (j := 4) rfl dX12_ref_88 rfl ?_
    refine g_iconst (q0 := 91) rfl dX12_ref_90 (k := ?_)
    refine g_icmp_eq (q0 := 94) (tgt := 112) rfl dX12_ref_91 (by decide) (fun h91 => ?_) (fun h91 => ?_)
    · replace h := gI_pos h91 h
      refine g_aload_n (q0 := 113) (j := 0) rfl dX12_ref_112 rfl ?_
      refine g_iload_n (q0 := 114) (j := 1) rfl dX12_ref_113 rfl ?_
      refine g_iload (q0 := 116) (j := 5) rfl dX12_ref_114 rfl ?_
      refine g_iload (q0 := 118) (j := 4) rfl dX12_ref_116 rfl ?_
      refine g_iconst (q0 := 119) rfl dX12_ref_118 (k := ?_)
      obtain ⟨m119, e119, h⟩ := gI_bd h
      refine g_callVq0 (as := [_, _, _, _]) (rest := []) mt_X12_laysRef mi_X12_laysRef se_X12_laysRef ml_X12_359 dX12_ref_119 (q0 := 122) rfl rfl (sh_711 hOK) rfl rfl (ok_laysRef hOK e119) rfl ⟨by decide, by decide⟩ (Nat.le_of_ble_eq_true rfl) ⟨Nat.zero_le _, Nat.zero_le _⟩ ?_
      have hOK1 : gOK sh m119 := gOK_fr hOK (fr_laysRef (b := m119) e119) (by first | decide | (intro a ha; simp only [List.mem_cons, List.not_mem_nil, or_false] at ha; omega)) (by decide)
      refine g_aload_n (q0 := 123) (j := 0) rfl dX12_ref_122 rfl ?_
      refine g_iload_n (q0 := 124) (j := 1) rfl dX12_ref_123 rfl ?_
      obtain ⟨r124, e124, h⟩ := gI_bd h
      refine g_callVq1 (as := [_]) (rest := []) mt_X12_refs mi_X12_refs se_X12_refs ml_X12_356 dX12_ref_124 (q0 := 127) rfl rfl (sh_711 hOK1) rfl rfl (ok_refs hOK1 e124) rfl ⟨by decide, by decide⟩ (Nat.le_of_ble_eq_true rfl) ⟨Nat.zero_le _, Nat.zero_le _⟩ ?_
      rw [← Option.some.inj h]
      refine g_ireturn dX12_ref_127 rfl ⟨Nat.zero_le _, Nat.zero_le _⟩ ?_
      exact ⟨rfl, rfl, rfl⟩
    · replace h := gI_neg h91 h
      refine g_iload (q0 := 96) (j := 6) rfl dX12_ref_94 rfl ?_
      refine g_if_ne (q0 := 99) (tgt := 112) rfl dX12_ref_96 (by decide) (fun h96 => ?_) (fun h96 => ?_)
      · replace h := gI_neg h96 h
        refine g_aload_n (q0 := 113) (j := 0) rfl dX12_ref_112 rfl ?_
        refine g_iload_n (q0 := 114) (j := 1) rfl dX12_ref_113 rfl ?_
        refine g_iload (q0 := 116) (j := 5) rfl dX12_ref_114 rfl ?_
        refine g_iload (q0 := 118) (j := 4) rfl dX12_ref_116 rfl ?_
        refine g_iconst (q0 := 119) rfl dX12_ref_118 (k := ?_)
        obtain ⟨m119, e119, h⟩ := gI_bd h
        refine g_callVq0 (as := [_, _, _, _]) (rest := []) mt_X12_laysRef mi_X12_laysRef se_X12_laysRef ml_X12_359 dX12_ref_119 (q0 := 122) rfl rfl (sh_711 hOK) rfl rfl (ok_laysRef hOK e119) rfl ⟨by decide, by decide⟩ (Nat.le_of_ble_eq_true rfl) ⟨Nat.zero_le _, Nat.zero_le _⟩ ?_
        have hOK2 : gOK sh m119 := gOK_fr hOK (fr_laysRef (b := m119) e119) (by first | decide | (intro a ha; simp only [List.mem_cons, List.not_mem_nil, or_false] at ha; omega)) (by decide)
        refine g_aload_n (q0 := 123) (j := 0) rfl dX12_ref_122 rfl ?_
        refine g_iload_n (q0 := 124) (j := 1) rfl dX12_ref_123 rfl ?_
        obtain ⟨r124, e124, h⟩ := gI_bd h
        refine g_callVq1 (as := [_]) (rest := []) mt_X12_refs mi_X12_refs se_X12_refs ml_X12_356 dX12_ref_124 (q0 := 127) rfl rfl (sh_711 hOK2) rfl rfl (ok_refs hOK2 e124) rfl ⟨by decide, by decide⟩ (Nat.le_of_ble_eq_true rfl) ⟨Nat.zero_le _, Nat.zero_le _⟩ ?_
        rw [← Option.some.inj h]
        refine g_ireturn dX12_ref_127 rfl ⟨Nat.zero_le _, Nat.zero_le _⟩ ?_
        exact ⟨rfl, rfl, rfl⟩
      · replace h := gI_pos h96 h
        refine g_aload_n (q0 := 100) (j := 0) rfl dX12_ref_99 rfl ?_
        refine g_iload_n (q0 := 101) (j := 1) rfl dX12_ref_100 rfl ?_
        obtain ⟨r101, e101, h⟩ := gI_bd h
        refine g_callVq1 (as := [_]) (rest := []) mt_X12_refs mi_X12_refs se_X12_refs ml_X12_356 dX12_ref_101 (q0 := 104) rfl rfl (sh_711 hOK) rfl rfl (ok_refs hOK e101) rfl ⟨by decide, by decide⟩ (Nat.le_of_ble_eq_true rfl) ⟨Nat.zero_le _, Nat.zero_le _⟩ ?_
        refine g_bipush (q0 := 106) rfl dX12_ref_104 (k := ?_)
        refine g_icmp_ne (q0 := 109) (tgt := 112) rfl dX12_ref_106 (by decide) (fun h106 => ?_) (fun h106 => ?_)
        · replace h := gI_neg h106 h
          refine g_aload_n (q0 := 113) (j := 0) rfl dX12_ref_112 rfl ?_
          refine g_iload_n (q0 := 114) (j := 1) rfl dX12_ref_113 rfl ?_
          refine g_iload (q0 := 116) (j := 5) rfl dX12_ref_114 rfl ?_
          refine g_iload (q0 := 118) (j := 4) rfl dX12_ref_116 rfl ?_
          refine g_iconst (q0 := 119) rfl dX12_ref_118 (k := ?_)
          obtain ⟨m119, e119, h⟩ := gI_bd h
          refine g_callVq0 (as := [_, _, _, _]) (rest := []) mt_X12_laysRef mi_X12_laysRef se_X12_laysRef ml_X12_359 dX12_ref_119 (q0 := 122) rfl rfl (sh_711 hOK) rfl rfl (ok_laysRef hOK e119) rfl ⟨by decide, by decide⟩ (Nat.le_of_ble_eq_true rfl) ⟨Nat.zero_le _, Nat.zero_le _⟩ ?_
          have hOK3 : gOK sh m119 := gOK_fr hOK (fr_laysRef (b := m119) e119) (by first | decide | (intro a ha; simp only [List.mem_cons, List.not_mem_nil, or_false] at ha; omega)) (by decide)
          refine g_aload_n (q0 := 123) (j := 0) rfl dX12_ref_122 rfl ?_
          refine g_iload_n (q0 := 124) (j := 1) rfl dX12_ref_123 rfl ?_
          obtain ⟨r124, e124, h⟩ := gI_bd h
          refine g_callVq1 (as := [_]) (rest := []) mt_X12_refs mi_X12_refs se_X12_refs ml_X12_356 dX12_ref_124 (q0 := 127) rfl rfl (sh_711 hOK3) rfl rfl (ok_refs hOK3 e124) rfl ⟨by decide, by decide⟩ (Nat.le_of_ble_eq_true rfl) ⟨Nat.zero_le _, Nat.zero_le _⟩ ?_
          rw [← Option.some.inj h]
          refine g_ireturn dX12_ref_127 rfl ⟨Nat.zero_le _, Nat.zero_le _⟩ ?_
          exact ⟨rfl, rfl, rfl⟩
        · replace h := gI_pos h106 h
          refine g_bipush (q0 := 111) rfl dX12_ref_109 (k := ?_)
          rw [← Option.some.inj h]
          refine g_ireturn dX12_ref_111 rfl ⟨Nat.zero_le _, Nat.zero_le _⟩ ?_
          exact ⟨rfl, rfl, rfl⟩
theorem ok_ref_88 {sh : gS} {M : gM} {x1 x2 x3 x4 x5 x6 : Int} {b : Int × gM} (hOK : gOK sh M) (h : F_ref_88 M x1 x2 x3 x4 x5 x6 = some b) : gA (gr 2 42) yX12_ref cX12_ref 7 (some (.int)) (gPq sh (some (0, b.1)) b.2) (0, 0) 88 [(4, 711), (0, x1), (0, x2), (0, x3), (0, x4), (0, x5), (0, x6)] [] sh M :=
  (okp_ref _ _ h) _ _ _ _ _ _ _ rfl hOK
theorem ok_ref {sh : gS} {M : gM} {a1 a2 a3 a4 : Int} {b : Int × gM} (hOK : gOK sh M) (h : F_ref M a1 a2 a3 a4 = some b) : gC (gr 2 42) yX12_ref cX12_ref 7 (some (.int)) [(4, 711), (0, a1), (0, a2), (0, a3), (0, a4)] sh M (gPq sh (some (0, b.1)) b.2) := by
  rw [eq_ref] at h
  refine gC_ofA (lv := [_, _, _, _, _, _, _]) (by decide +kernel) (Nat.le_of_ble_eq_true rfl) rfl (fun hMw hav => ?_)
  refine g_iload_n (q0 := 1) (j := 1) rfl dX12_ref_0 rfl ?_
  obtain ⟨r1, e1, h⟩ := gI_bd h
  refine g_callSq1 (as := [_]) (rest := []) mt_X12_isHistory ms_X12_isHistory ml_X12_353 dX12_ref_1 (q0 := 4) rfl rfl (ok_isHistory hOK e1) rfl ⟨by decide, by decide⟩ (Nat.le_of_ble_eq_true rfl) ⟨Nat.zero_le _, Nat.zero_le _⟩ ?_
  refine g_if_eq (q0 := 7) (tgt := 41) rfl dX12_ref_4 (by decide) (fun h4 => ?_) (fun h4 => ?_)
  · replace h := gI_pos h4 h
    refine g_iconst (q0 := 42) rfl dX12_ref_41 (k := ?_)
    rw [← Option.some.inj h]
    refine g_ireturn dX12_ref_42 rfl ⟨Nat.zero_le _, Nat.zero_le _⟩ ?_
    exact ⟨rfl, rfl, rfl⟩
  · replace h := gI_neg h4 h
    refine g_iload_n (q0 := 8) (j := 2) rfl dX12_ref_7 rfl ?_
    refine g_iconst (q0 := 9) rfl dX12_ref_8 (k := ?_)
    refine g_iconst (q0 := 10) rfl dX12_ref_9 (k := ?_)
    obtain ⟨r10, e10, h⟩ := gI_bd h
    refine g_callSq1 (as := [_, _, _]) (rest := []) mt_X12_in ms_X12_in ml_X12_182 dX12_ref_10 (q0 := 13) rfl rfl (ok_in hOK e10) rfl ⟨by decide, by decide⟩ (Nat.le_of_ble_eq_true rfl) ⟨Nat.zero_le _, Nat.zero_le _⟩ ?_
    refine g_if_eq (q0 := 16) (tgt := 41) rfl dX12_ref_13 (by decide) (fun h13 => ?_) (fun h13 => ?_)
    · replace h := gI_pos h13 h
      refine g_iconst (q0 := 42) rfl dX12_ref_41 (k := ?_)
      rw [← Option.some.inj h]
      refine g_ireturn dX12_ref_42 rfl ⟨Nat.zero_le _, Nat.zero_le _⟩ ?_
      exact ⟨rfl, rfl, rfl⟩
    · replace h := gI_neg h13 h
      refine g_iload_n (q0 := 17) (j := 3) rfl dX12_ref_16 rfl ?_
      refine g_iconst (q0 := 18) rfl dX12_ref_17 (k := ?_)
      refine g_bipush (q0 := 20) rfl dX12_ref_18 (k := ?_)
      obtain ⟨r20, e20, h⟩ := gI_bd h
      refine g_callSq1 (as := [_, _, _]) (rest := []) mt_X12_in ms_X12_in ml_X12_182 dX12_ref_20 (q0 := 23) rfl rfl (ok_in hOK e20) rfl ⟨by decide, by decide⟩ (Nat.le_of_ble_eq_true rfl) ⟨Nat.zero_le _, Nat.zero_le _⟩ ?_
      refine g_if_eq (q0 := 26) (tgt := 41) rfl dX12_ref_23 (by decide) (fun h23 => ?_) (fun h23 => ?_)
      · replace h := gI_pos h23 h
        refine g_iconst (q0 := 42) rfl dX12_ref_41 (k := ?_)
        rw [← Option.some.inj h]
        refine g_ireturn dX12_ref_42 rfl ⟨Nat.zero_le _, Nat.zero_le _⟩ ?_
        exact ⟨rfl, rfl, rfl⟩
      · replace h := gI_neg h23 h
        refine g_iload (q0 := 28) (j := 4) rfl dX12_ref_26 rfl ?_
        refine g_iconst (q0 := 29) rfl dX12_ref_28 (k := ?_)
        refine g_aload_n (q0 := 30) (j := 0) rfl dX12_ref_29 rfl ?_
        refine g_getf (q0 := 33) (t := 0) (fi := 0) rfl rfl ff_X12_178 dX12_ref_30 rfl (sh_711 hOK) ?_
        refine g_iconst (q0 := 34) rfl dX12_ref_33 (k := ?_)
        refine g_isubw (q0 := 35) rfl dX12_ref_34 ?_
        obtain ⟨r35, e35, h⟩ := gI_bd h
        refine g_callSq1 (as := [_, _, _]) (rest := []) mt_X12_in ms_X12_in ml_X12_182 dX12_ref_35 (q0 := 38) rfl rfl (ok_in hOK e35) rfl ⟨by decide, by decide⟩ (Nat.le_of_ble_eq_true rfl) ⟨Nat.zero_le _, Nat.zero_le _⟩ ?_
        refine g_if_ne (q0 := 41) (tgt := 43) rfl dX12_ref_38 (by decide) (fun h38 => ?_) (fun h38 => ?_)
        · replace h := gI_neg h38 h
          refine g_bipush (q0 := 45) rfl dX12_ref_43 (k := ?_)
          refine g_iload_n (q0 := 46) (j := 2) rfl dX12_ref_45 rfl ?_
          refine g_imulw (q0 := 47) rfl dX12_ref_46 ?_
          refine g_iload_n (q0 := 48) (j := 3) rfl dX12_ref_47 rfl ?_
          refine g_iaddw (q0 := 49) rfl dX12_ref_48 ?_
          refine g_istore (q0 := 51) (j := 5) (lv2 := [_, _, _, _, _, _, _]) rfl dX12_ref_49 (by decide) rfl rfl ?_
          refine g_aload_n (q0 := 52) (j := 0) rfl dX12_ref_51 rfl ?_
          refine g_getp (q0 := 55) (b := 727) rfl ff_X12_57 dX12_ref_52 rfl hOK (by decide) (sh_711 hOK) rfl (by decide) ?_
          refine g_bipush (q0 := 57) rfl dX12_ref_55 (k := ?_)
          refine g_iload_n (q0 := 58) (j := 1) rfl dX12_ref_57 rfl ?_
          refine g_imulw (q0 := 59) rfl dX12_ref_58 ?_
          refine g_iload (q0 := 61) (j := 5) rfl dX12_ref_59 rfl ?_
          refine g_iaddw (q0 := 62) rfl dX12_ref_61 ?_
          obtain ⟨g4, h⟩ := gI_gd h
          refine g_iald (q0 := 63) rfl dX12_ref_62 (sh_727 hOK) g4.1 g4.2 ?_
          refine g_iconst (q0 := 64) rfl dX12_ref_63 (k := ?_)
          refine g_icmp_eq (q0 := 67) (tgt := 71) rfl dX12_ref_64 (by decide) (fun h64 => ?_) (fun h64 => ?_)
          · replace h := gI_pos h64 h
            refine g_iconst (q0 := 72) rfl dX12_ref_71 (k := ?_)
            refine g_istore (q0 := 74) (j := 6) (lv2 := [_, _, _, _, _, _, _]) rfl dX12_ref_72 (by decide) rfl rfl ?_
            refine g_iload (q0 := 76) (j := 4) rfl dX12_ref_74 rfl ?_
            refine g_iconst (q0 := 77) rfl dX12_ref_76 (k := ?_)
            refine g_icmp_ne (q0 := 80) (tgt := 88) rfl dX12_ref_77 (by decide) (fun h77 => ?_) (fun h77 => ?_)
            · replace h := gI_neg h77 h
              exact ok_ref_88 hOK h
            · replace h := gI_pos h77 h
              refine g_iload (q0 := 82) (j := 6) rfl dX12_ref_80 rfl ?_
              refine g_if_ne (q0 := 85) (tgt := 88) rfl dX12_ref_82 (by decide) (fun h82 => ?_) (fun h82 => ?_)
              · exact absurd h82 (by decide)
              · refine g_bipush (q0 := 87) rfl dX12_ref_85 (k := ?_)
                rw [← Option.some.inj h]
                refine g_ireturn dX12_ref_87 rfl ⟨Nat.zero_le _, Nat.zero_le _⟩ ?_
                exact ⟨rfl, rfl, rfl⟩
          · replace h := gI_neg h64 h
            refine g_iconst (q0 := 68) rfl dX12_ref_67 (k := ?_)
            refine g_goto (tgt := 72) dX12_ref_68 (by decide) ?_
            refine g_istore (q0 := 74) (j := 6) (lv2 := [_, _, _, _, _, _, _]) rfl dX12_ref_72 (by decide) rfl rfl ?_
            refine g_iload (q0 := 76) (j := 4) rfl dX12_ref_74 rfl ?_
            refine g_iconst (q0 := 77) rfl dX12_ref_76 (k := ?_)
            refine g_icmp_ne (q0 := 80) (tgt := 88) rfl dX12_ref_77 (by decide) (fun h77 => ?_) (fun h77 => ?_)
            · replace h := gI_neg h77 h
              exact ok_ref_88 hOK h
            · replace h := gI_pos h77 h
              refine g_iload (q0 := 82) (j := 6) rfl dX12_ref_80 rfl ?_
              refine g_if_ne (q0 := 85) (tgt := 88) rfl dX12_ref_82 (by decide) (fun h82 => ?_) (fun h82 => ?_)
              · exact ok_ref_88 hOK h
              · exact absurd h82 (by decide)
        · replace h := gI_pos h38 h
          refine g_iconst (q0 := 42) rfl dX12_ref_41 (k := ?_)
          rw [← Option.some.inj h]
          refine g_ireturn dX12_ref_42 rfl ⟨Nat.zero_le _, Nat.zero_le _⟩ ?_
          exact ⟨rfl, rfl, rfl⟩
-- ==== refIs
theorem dX12_refIs_0 : decode cX12_refIs 0 = .ok (.iload_n 1, 1) := by decide +kernel
theorem dX12_refIs_1 : decode cX12_refIs 1 = .ok (.invokestatic 353, 3) := by decide +kernel
theorem dX12_refIs_4 : decode cX12_refIs 4 = .ok (.ifCond .eq 22, 3) := by decide +kernel
theorem dX12_refIs_7 : decode cX12_refIs 7 = .ok (.iload_n 2, 1) := by decide +kernel
theorem dX12_refIs_8 : decode cX12_refIs 8 = .ok (.iconst 0, 1) := by decide +kernel
theorem dX12_refIs_9 : decode cX12_refIs 9 = .ok (.bipush 7, 2) := by decide +kernel
theorem dX12_refIs_11 : decode cX12_refIs 11 = .ok (.invokestatic 182, 3) := by decide +kernel
theorem dX12_refIs_14 : decode cX12_refIs 14 = .ok (.ifCond .eq 12, 3) := by decide +kernel
theorem dX12_refIs_17 : decode cX12_refIs 17 = .ok (.iload_n 3, 1) := by decide +kernel
theorem dX12_refIs_18 : decode cX12_refIs 18 = .ok (.iconst 0, 1) := by decide +kernel
theorem dX12_refIs_19 : decode cX12_refIs 19 = .ok (.iconst 3, 1) := by decide +kernel
theorem dX12_refIs_20 : decode cX12_refIs 20 = .ok (.invokestatic 182, 3) := by decide +kernel
theorem dX12_refIs_23 : decode cX12_refIs 23 = .ok (.ifCond .ne 5, 3) := by decide +kernel
theorem dX12_refIs_26 : decode cX12_refIs 26 = .ok (.iconst (-1), 1) := by decide +kernel
theorem dX12_refIs_27 : decode cX12_refIs 27 = .ok (.ireturn, 1) := by decide +kernel
theorem dX12_refIs_28 : decode cX12_refIs 28 = .ok (.iload_n 2, 1) := by decide +kernel
theorem dX12_refIs_29 : decode cX12_refIs 29 = .ok (.istore 4, 2) := by decide +kernel
theorem dX12_refIs_31 : decode cX12_refIs 31 = .ok (.iconst 0, 1) := by decide +kernel
theorem dX12_refIs_32 : decode cX12_refIs 32 = .ok (.istore 5, 2) := by decide +kernel
theorem dX12_refIs_34 : decode cX12_refIs 34 = .ok (.iload 5, 2) := by decide +kernel
theorem dX12_refIs_36 : decode cX12_refIs 36 = .ok (.bipush 52, 2) := by decide +kernel
theorem dX12_refIs_38 : decode cX12_refIs 38 = .ok (.if_icmp .ge 112, 3) := by decide +kernel
theorem dX12_refIs_41 : decode cX12_refIs 41 = .ok (.aload_n 0, 1) := by decide +kernel
theorem dX12_refIs_42 : decode cX12_refIs 42 = .ok (.getfield 57, 3) := by decide +kernel
theorem dX12_refIs_45 : decode cX12_refIs 45 = .ok (.bipush 52, 2) := by decide +kernel
theorem dX12_refIs_47 : decode cX12_refIs 47 = .ok (.iload_n 1, 1) := by decide +kernel
theorem dX12_refIs_48 : decode cX12_refIs 48 = .ok (.imul, 1) := by decide +kernel
theorem dX12_refIs_49 : decode cX12_refIs 49 = .ok (.iload 5, 2) := by decide +kernel
theorem dX12_refIs_51 : decode cX12_refIs 51 = .ok (.iadd, 1) := by decide +kernel
theorem dX12_refIs_52 : decode cX12_refIs 52 = .ok (.iaload, 1) := by decide +kernel
theorem dX12_refIs_53 : decode cX12_refIs 53 = .ok (.iconst (-1), 1) := by decide +kernel
theorem dX12_refIs_54 : decode cX12_refIs 54 = .ok (.if_icmp .ne 6, 3) := by decide +kernel
theorem dX12_refIs_57 : decode cX12_refIs 57 = .ok (.goto 87, 3) := by decide +kernel
theorem dX12_refIs_60 : decode cX12_refIs 60 = .ok (.iload 4, 2) := by decide +kernel
theorem dX12_refIs_62 : decode cX12_refIs 62 = .ok (.ifCond .ne 76, 3) := by decide +kernel
theorem dX12_refIs_65 : decode cX12_refIs 65 = .ok (.aload_n 0, 1) := by decide +kernel
theorem dX12_refIs_66 : decode cX12_refIs 66 = .ok (.getfield 60, 3) := by decide +kernel
theorem dX12_refIs_69 : decode cX12_refIs 69 = .ok (.bipush 52, 2) := by decide +kernel
theorem dX12_refIs_71 : decode cX12_refIs 71 = .ok (.iload_n 1, 1) := by decide +kernel
theorem dX12_refIs_72 : decode cX12_refIs 72 = .ok (.imul, 1) := by decide +kernel
theorem dX12_refIs_73 : decode cX12_refIs 73 = .ok (.iload 5, 2) := by decide +kernel
theorem dX12_refIs_75 : decode cX12_refIs 75 = .ok (.iadd, 1) := by decide +kernel
theorem dX12_refIs_76 : decode cX12_refIs 76 = .ok (.iaload, 1) := by decide +kernel
theorem dX12_refIs_77 : decode cX12_refIs 77 = .ok (.istore 6, 2) := by decide +kernel
theorem dX12_refIs_79 : decode cX12_refIs 79 = .ok (.iload_n 3, 1) := by decide +kernel
theorem dX12_refIs_80 : decode cX12_refIs 80 = .ok (.ifCond .ne 11, 3) := by decide +kernel
theorem dX12_refIs_83 : decode cX12_refIs 83 = .ok (.iload 5, 2) := by decide +kernel
theorem dX12_refIs_85 : decode cX12_refIs 85 = .ok (.bipush 26, 2) := by decide +kernel
theorem dX12_refIs_87 : decode cX12_refIs 87 = .ok (.idiv, 1) := by decide +kernel
theorem dX12_refIs_88 : decode cX12_refIs 88 = .ok (.goto 49, 3) := by decide +kernel
theorem dX12_refIs_91 : decode cX12_refIs 91 = .ok (.iload_n 3, 1) := by decide +kernel
theorem dX12_refIs_92 : decode cX12_refIs 92 = .ok (.iconst 1, 1) := by decide +kernel
theorem dX12_refIs_93 : decode cX12_refIs 93 = .ok (.if_icmp .ne 11, 3) := by decide +kernel
theorem dX12_refIs_96 : decode cX12_refIs 96 = .ok (.iload 5, 2) := by decide +kernel
theorem dX12_refIs_98 : decode cX12_refIs 98 = .ok (.bipush 26, 2) := by decide +kernel
theorem dX12_refIs_100 : decode cX12_refIs 100 = .ok (.irem, 1) := by decide +kernel
theorem dX12_refIs_101 : decode cX12_refIs 101 = .ok (.goto 36, 3) := by decide +kernel
theorem dX12_refIs_104 : decode cX12_refIs 104 = .ok (.iload_n 3, 1) := by decide +kernel
theorem dX12_refIs_105 : decode cX12_refIs 105 = .ok (.iconst 2, 1) := by decide +kernel
theorem dX12_refIs_106 : decode cX12_refIs 106 = .ok (.if_icmp .ne 18, 3) := by decide +kernel
theorem dX12_refIs_109 : decode cX12_refIs 109 = .ok (.aload_n 0, 1) := by decide +kernel
theorem dX12_refIs_110 : decode cX12_refIs 110 = .ok (.getfield 57, 3) := by decide +kernel
theorem dX12_refIs_113 : decode cX12_refIs 113 = .ok (.bipush 52, 2) := by decide +kernel
theorem dX12_refIs_115 : decode cX12_refIs 115 = .ok (.iload_n 1, 1) := by decide +kernel
theorem dX12_refIs_116 : decode cX12_refIs 116 = .ok (.imul, 1) := by decide +kernel
theorem dX12_refIs_117 : decode cX12_refIs 117 = .ok (.iload 5, 2) := by decide +kernel
theorem dX12_refIs_119 : decode cX12_refIs 119 = .ok (.iadd, 1) := by decide +kernel
theorem dX12_refIs_120 : decode cX12_refIs 120 = .ok (.iaload, 1) := by decide +kernel
theorem dX12_refIs_121 : decode cX12_refIs 121 = .ok (.goto 16, 3) := by decide +kernel
theorem dX12_refIs_124 : decode cX12_refIs 124 = .ok (.iload 6, 2) := by decide +kernel
theorem dX12_refIs_126 : decode cX12_refIs 126 = .ok (.iconst (-1), 1) := by decide +kernel
theorem dX12_refIs_127 : decode cX12_refIs 127 = .ok (.if_icmp .ne 8, 3) := by decide +kernel
theorem dX12_refIs_130 : decode cX12_refIs 130 = .ok (.bipush (-2), 2) := by decide +kernel
theorem dX12_refIs_132 : decode cX12_refIs 132 = .ok (.goto 5, 3) := by decide +kernel
theorem dX12_refIs_135 : decode cX12_refIs 135 = .ok (.iload 6, 2) := by decide +kernel
theorem dX12_refIs_137 : decode cX12_refIs 137 = .ok (.ireturn, 1) := by decide +kernel
theorem dX12_refIs_138 : decode cX12_refIs 138 = .ok (.iload 4, 2) := by decide +kernel
theorem dX12_refIs_140 : decode cX12_refIs 140 = .ok (.iconst 1, 1) := by decide +kernel
theorem dX12_refIs_141 : decode cX12_refIs 141 = .ok (.isub, 1) := by decide +kernel
theorem dX12_refIs_142 : decode cX12_refIs 142 = .ok (.istore 4, 2) := by decide +kernel
theorem dX12_refIs_144 : decode cX12_refIs 144 = .ok (.iinc 5 1, 3) := by decide +kernel
theorem dX12_refIs_147 : decode cX12_refIs 147 = .ok (.goto (-113), 3) := by decide +kernel
theorem dX12_refIs_150 : decode cX12_refIs 150 = .ok (.bipush (-4), 2) := by decide +kernel
theorem dX12_refIs_152 : decode cX12_refIs 152 = .ok (.ireturn, 1) := by decide +kernel
noncomputable def st_refIs (M : gM) : Nat × List Int → Option ((Nat × List Int) ⊕ (Int))
  | (0, [x1, x2, x3, x4, x5]) => (if x5 < 52 then
      (if 0 ≤ (gw32 ((gw32 ((52 : Int) * x1)) + x5)) ∧ (gw32 ((gw32 ((52 : Int) * x1)) + x5)) < 208 then
        (if (M 727 (gw32 ((gw32 ((52 : Int) * x1)) + x5))) = -1 then
          some (.inl (0, [x1, x2, x3, x4, (gw32 (x5 + 1))]))
        else
          (if x4 = 0 then
            (if x3 = 0 then
              some (.inr (gdiv x5 26))
            else
              (if x3 = 1 then
                some (.inr (grem x5 26))
              else
                (if x3 = 2 then
                  some (.inr (M 727 (gw32 ((gw32 ((52 : Int) * x1)) + x5))))
                else
                  (if (M 728 (gw32 ((gw32 ((52 : Int) * x1)) + x5))) = -1 then
                    some (.inr (-2))
                  else
                    some (.inr (M 728 (gw32 ((gw32 ((52 : Int) * x1)) + x5))))))))
          else
            some (.inl (0, [x1, x2, x3, (gw32 (x4 - (1 : Int))), (gw32 (x5 + 1))]))))
      else none)
    else
      some (.inr (-4)))
  | _ => none
theorem sk_refIs_34 (k : Nat × List Int → Option (Int)) (M : gM) (x1 x2 x3 x4 x5 : Int) : gWk k (st_refIs M (0, [x1, x2, x3, x4, x5])) = (if x5 < 52 then
    (if 0 ≤ (gw32 ((gw32 ((52 : Int) * x1)) + x5)) ∧ (gw32 ((gw32 ((52 : Int) * x1)) + x5)) < 208 then
      (if (M 727 (gw32 ((gw32 ((52 : Int) * x1)) + x5))) = -1 then
        k (0, [x1, x2, x3, x4, (gw32 (x5 + 1))])
      else
        (if x4 = 0 then
          (if x3 = 0 then
            some (gdiv x5 26)
          else
            (if x3 = 1 then
              some (grem x5 26)
            else
              (if x3 = 2 then
                some (M 727 (gw32 ((gw32 ((52 : Int) * x1)) + x5)))
              else
                (if (M 728 (gw32 ((gw32 ((52 : Int) * x1)) + x5))) = -1 then
                  some (-2)
                else
                  some (M 728 (gw32 ((gw32 ((52 : Int) * x1)) + x5)))))))
        else
          k (0, [x1, x2, x3, (gw32 (x4 - (1 : Int))), (gw32 (x5 + 1))])))
    else none)
  else
    some (-4)) := by
  simp only [st_refIs, gWk_ite, gWk_bind, gWk_inl, gWk_inr, gWk_none]
noncomputable def F_refIs_34 (M : gM) (x1 x2 x3 x4 x5 : Int) : Option (Int) := gWh (st_refIs M) (0, [x1, x2, x3, x4, x5])
theorem eq_refIs_34 (M : gM) (x1 x2 x3 x4 x5 : Int) : F_refIs_34 M x1 x2 x3 x4 x5 = (if x5 < 52 then
    (if 0 ≤ (gw32 ((gw32 ((52 : Int) * x1)) + x5)) ∧ (gw32 ((gw32 ((52 : Int) * x1)) + x5)) < 208 then
      (if (M 727 (gw32 ((gw32 ((52 : Int) * x1)) + x5))) = -1 then
        F_refIs_34 M x1 x2 x3 x4 (gw32 (x5 + 1))
      else
        (if x4 = 0 then
          (if x3 = 0 then
            some (gdiv x5 26)
          else
            (if x3 = 1 then
              some (grem x5 26)
            else
              (if x3 = 2 then
                some (M 727 (gw32 ((gw32 ((52 : Int) * x1)) + x5)))
              else
                (if (M 728 (gw32 ((gw32 ((52 : Int) * x1)) + x5))) = -1 then
                  some (-2)
                else
                  some (M 728 (gw32 ((gw32 ((52 : Int) * x1)) + x5)))))))
        else
          F_refIs_34 M x1 x2 x3 (gw32 (x4 - (1 : Int))) (gw32 (x5 + 1))))
    else none)
  else
    some (-4)) := (gWh_eq _).trans (sk_refIs_34 _ M x1 x2 x3 x4 x5)
noncomputable def F_refIs (M : gM) (a1 a2 a3 : Int) : Option (Int) := (Option.bind (F_isHistory a1) (fun r1 =>
    (if r1 = 0 then
      some (-1)
    else
      (Option.bind (F_in a2 0 7) (fun r11 =>
        (if r11 = 0 then
          some (-1)
        else
          (Option.bind (F_in a3 0 3) (fun r20 =>
            (if r20 = 0 then
              some (-1)
            else
              F_refIs_34 M a1 a2 a3 a2 0)))))))))
theorem eq_refIs (M : gM) (a1 a2 a3 : Int) : F_refIs M a1 a2 a3 = (Option.bind (F_isHistory a1) (fun r1 =>
    (if r1 = 0 then
      some (-1)
    else
      (Option.bind (F_in a2 0 7) (fun r11 =>
        (if r11 = 0 then
          some (-1)
        else
          (Option.bind (F_in a3 0 3) (fun r20 =>
            (if r20 = 0 then
              some (-1)
            else
              F_refIs_34 M a1 a2 a3 a2 0))))))))) := rfl
theorem okp_refIs {sh : gS} {M : gM} : ∀ (s : Nat × List Int) (b : Int), gWh (st_refIs M) s = some b → (∀ (x1 x2 x3 x4 x5 : Int), s = (0, [x1, x2, x3, x4, x5]) → gOK sh M → gA (gr 2 42) yX12_refIs cX12_refIs 7 (some (.int)) (gPq sh (some (0, b)) M) (0, 0) 34 [(4, 711), (0, x1), (0, x2), (0, x3), (0, x4), (0, x5), (9, 0)] [] sh M) := by
  refine gWh_ind (fun k hk s b h => ?_)
  · rintro x1 x2 x3 x4 x5 rfl hOK
    rw [sk_refIs_34] at h
    refine g_iload (q0 := 36) (j := 5) rfl dX12_refIs_34 rfl ?_
    refine g_bipush (q0 := 38) rfl dX12_refIs_36 (k := ?_)
    refine g_icmp_ge (q0 := 41) (tgt := 150) rfl dX12_refIs_38 (by decide) (fun h38 => ?_) (fun h38 => ?_)
    · replace h := gI_neg (Int.not_lt.mpr h38) h
      refine g_bipush (q0 := 152) rfl dX12_refIs_150 (k := ?_)
      rw [← Option.some.inj h]
      refine g_ireturn dX12_refIs_152 rfl ⟨Nat.zero_le _, Nat.zero_le _⟩ ?_
      exact ⟨rfl, rfl, rfl⟩
    · replace h := gI_pos h38 h
      refine g_aload_n (q0 := 42) (j := 0) rfl dX12_refIs_41 rfl ?_
      refine g_getp (q0 := 45) (b := 727) rfl ff_X12_57 dX12_refIs_42 rfl hOK (by decide) (sh_711 hOK) rfl (by decide) ?_
      refine g_bipush (q0 := 47) rfl dX12_refIs_45 (k := ?_)
      refine g_iload_n (q0 := 48) (j := 1) rfl dX12_refIs_47 rfl ?_
      refine g_imulw (q0 := 49) rfl dX12_refIs_48 ?_
      refine g_iload (q0 := 51) (j := 5) rfl dX12_refIs_49 rfl ?_
      refine g_iaddw (q0 := 52) rfl dX12_refIs_51 ?_
      obtain ⟨g1, h⟩ := gI_gd h
      refine g_iald (q0 := 53) rfl dX12_refIs_52 (sh_727 hOK) g1.1 g1.2 ?_
      refine g_iconst (q0 := 54) rfl dX12_refIs_53 (k := ?_)
      refine g_icmp_ne (q0 := 57) (tgt := 60) rfl dX12_refIs_54 (by decide) (fun h54 => ?_) (fun h54 => ?_)
      · replace h := gI_neg h54 h
        refine g_iload (q0 := 62) (j := 4) rfl dX12_refIs_60 rfl ?_
        refine g_if_ne (q0 := 65) (tgt := 138) rfl dX12_refIs_62 (by decide) (fun h62 => ?_) (fun h62 => ?_)
        · replace h := gI_neg h62 h
          refine g_iload (q0 := 140) (j := 4) rfl dX12_refIs_138 rfl ?_
          refine g_iconst (q0 := 141) rfl dX12_refIs_140 (k := ?_)
          refine g_isubw (q0 := 142) rfl dX12_refIs_141 ?_
          refine g_istore (q0 := 144) (j := 4) (lv2 := [_, _, _, _, _, _, _]) rfl dX12_refIs_142 (by decide) rfl rfl ?_
          refine g_iincw (q0 := 147) (lv2 := [_, _, _, _, _, _, _]) rfl dX12_refIs_144 rfl (by decide) rfl rfl ?_
          refine g_goto (tgt := 34) dX12_refIs_147 (by decide) ?_
          exact (hk _ _ h) _ _ _ _ _ rfl hOK
        · replace h := gI_pos h62 h
          refine g_aload_n (q0 := 66) (j := 0) rfl dX12_refIs_65 rfl ?_
          refine g_getp (q0 := 69) (b := 728) rfl ff_X12_60 dX12_refIs_66 rfl hOK (by decide) (sh_711 hOK) rfl (by decide) ?_
          refine g_bipush (q0 := 71) rfl dX12_refIs_69 (k := ?_)
          refine g_iload_n (q0 := 72) (j := 1) rfl dX12_refIs_71 rfl ?_
          refine g_imulw (q0 := 73) rfl dX12_refIs_72 ?_
          refine g_iload (q0 := 75) (j := 5) rfl dX12_refIs_73 rfl ?_
          refine g_iaddw (q0 := 76) rfl dX12_refIs_75 ?_
          refine g_iald (q0 := 77) rfl dX12_refIs_76 (sh_728 hOK) g1.1 g1.2 ?_
          refine g_istore (q0 := 79) (j := 6) (lv2 := [_, _, _, _, _, _, _]) rfl dX12_refIs_77 (by decide) rfl rfl ?_
          refine g_iload_n (q0 := 80) (j := 3) rfl dX12_refIs_79 rfl ?_
          refine g_if_ne (q0 := 83) (tgt := 91) rfl dX12_refIs_80 (by decide) (fun h80 => ?_) (fun h80 => ?_)
          · replace h := gI_neg h80 h
            refine g_iload_n (q0 := 92) (j := 3) rfl dX12_refIs_91 rfl ?_
            refine g_iconst (q0 := 93) rfl dX12_refIs_92 (k := ?_)
            refine g_icmp_ne (q0 := 96) (tgt := 104) rfl dX12_refIs_93 (by decide) (fun h93 => ?_) (fun h93 => ?_)
            · replace h := gI_neg h93 h
              refine g_iload_n (q0 := 105) (j := 3) rfl dX12_refIs_104 rfl ?_
              refine g_iconst (q0 := 106) rfl dX12_refIs_105 (k := ?_)
              refine g_icmp_ne (q0 := 109) (tgt := 124) rfl dX12_refIs_106 (by decide) (fun h106 => ?_) (fun h106 => ?_)
              · replace h := gI_neg h106 h
                refine g_iload (q0 := 126) (j := 6) rfl dX12_refIs_124 rfl ?_
                refine g_iconst (q0 := 127) rfl dX12_refIs_126 (k := ?_)
                refine g_icmp_ne (q0 := 130) (tgt := 135) rfl dX12_refIs_127 (by decide) (fun h127 => ?_) (fun h127 => ?_)
                · replace h := gI_neg h127 h
                  refine g_iload (q0 := 137) (j := 6) rfl dX12_refIs_135 rfl ?_
                  rw [← Option.some.inj h]
                  refine g_ireturn dX12_refIs_137 rfl ⟨Nat.zero_le _, Nat.zero_le _⟩ ?_
                  exact ⟨rfl, rfl, rfl⟩
                · replace h := gI_pos h127 h
                  refine g_bipush (q0 := 132) rfl dX12_refIs_130 (k := ?_)
                  refine g_goto (tgt := 137) dX12_refIs_132 (by decide) ?_
                  rw [← Option.some.inj h]
                  refine g_ireturn dX12_refIs_137 rfl ⟨Nat.zero_le _, Nat.zero_le _⟩ ?_
                  exact ⟨rfl, rfl, rfl⟩
              · replace h := gI_pos h106 h
                refine g_aload_n (q0 := 110) (j := 0) rfl dX12_refIs_109 rfl ?_
                refine g_getp (q0 := 113) (b := 727) rfl ff_X12_57 dX12_refIs_110 rfl hOK (by decide) (sh_711 hOK) rfl (by decide) ?_
                refine g_bipush (q0 := 115) rfl dX12_refIs_113 (k := ?_)
                refine g_iload_n (q0 := 116) (j := 1) rfl dX12_refIs_115 rfl ?_
                refine g_imulw (q0 := 117) rfl dX12_refIs_116 ?_
                refine g_iload (q0 := 119) (j := 5) rfl dX12_refIs_117 rfl ?_
                refine g_iaddw (q0 := 120) rfl dX12_refIs_119 ?_
                refine g_iald (q0 := 121) rfl dX12_refIs_120 (sh_727 hOK) g1.1 g1.2 ?_
                refine g_goto (tgt := 137) dX12_refIs_121 (by decide) ?_
                rw [← Option.some.inj h]
                refine g_ireturn dX12_refIs_137 rfl ⟨Nat.zero_le _, Nat.zero_le _⟩ ?_
                exact ⟨rfl, rfl, rfl⟩
            · replace h := gI_pos h93 h
              refine g_iload (q0 := 98) (j := 5) rfl dX12_refIs_96 rfl ?_
              refine g_bipush (q0 := 100) rfl dX12_refIs_98 (k := ?_)
              refine g_irem (q0 := 101) rfl dX12_refIs_100 (by decide) ?_
              refine g_goto (tgt := 137) dX12_refIs_101 (by decide) ?_
              rw [← Option.some.inj h]
              refine g_ireturn dX12_refIs_137 rfl ⟨Nat.zero_le _, Nat.zero_le _⟩ ?_
              exact ⟨rfl, rfl, rfl⟩
          · replace h := gI_pos h80 h
            refine g_iload (q0 := 85) (j := 5) rfl dX12_refIs_83 rfl ?_
            refine g_bipush (q0 := 87) rfl dX12_refIs_85 (k := ?_)
            refine g_idiv (q0 := 88) rfl dX12_refIs_87 (by decide) ?_
            refine g_goto (tgt := 137) dX12_refIs_88 (by decide) ?_
            rw [← Option.some.inj h]
            refine g_ireturn dX12_refIs_137 rfl ⟨Nat.zero_le _, Nat.zero_le _⟩ ?_
            exact ⟨rfl, rfl, rfl⟩
      · replace h := gI_pos h54 h
        refine g_goto (tgt := 144) dX12_refIs_57 (by decide) ?_
        refine g_iincw (q0 := 147) (lv2 := [_, _, _, _, _, _, _]) rfl dX12_refIs_144 rfl (by decide) rfl rfl ?_
        refine g_goto (tgt := 34) dX12_refIs_147 (by decide) ?_
        exact (hk _ _ h) _ _ _ _ _ rfl hOK
theorem ok_refIs_34 {sh : gS} {M : gM} {x1 x2 x3 x4 x5 : Int} {b : Int} (hOK : gOK sh M) (h : F_refIs_34 M x1 x2 x3 x4 x5 = some b) : gA (gr 2 42) yX12_refIs cX12_refIs 7 (some (.int)) (gPq sh (some (0, b)) M) (0, 0) 34 [(4, 711), (0, x1), (0, x2), (0, x3), (0, x4), (0, x5), (9, 0)] [] sh M :=
  (okp_refIs _ _ h) _ _ _ _ _ rfl hOK
theorem ok_refIs {sh : gS} {M : gM} {a1 a2 a3 : Int} {b : Int} (hOK : gOK sh M) (h : F_refIs M a1 a2 a3 = some b) : gC (gr 2 42) yX12_refIs cX12_refIs 7 (some (.int)) [(4, 711), (0, a1), (0, a2), (0, a3)] sh M (gPq sh (some (0, b)) M) := by
  rw [eq_refIs] at h
  refine gC_ofA (lv := [_, _, _, _, _, _, _]) (by decide +kernel) (Nat.le_of_ble_eq_true rfl) rfl (fun hMw hav => ?_)
  refine g_iload_n (q0 := 1) (j := 1) rfl dX12_refIs_0 rfl ?_
  obtain ⟨r1, e1, h⟩ := gI_bd h
  refine g_callSq1 (as := [_]) (rest := []) mt_X12_isHistory ms_X12_isHistory ml_X12_353 dX12_refIs_1 (q0 := 4) rfl rfl (ok_isHistory hOK e1) rfl ⟨by decide, by decide⟩ (Nat.le_of_ble_eq_true rfl) ⟨Nat.zero_le _, Nat.zero_le _⟩ ?_
  refine g_if_eq (q0 := 7) (tgt := 26) rfl dX12_refIs_4 (by decide) (fun h4 => ?_) (fun h4 => ?_)
  · replace h := gI_pos h4 h
    refine g_iconst (q0 := 27) rfl dX12_refIs_26 (k := ?_)
    rw [← Option.some.inj h]
    refine g_ireturn dX12_refIs_27 rfl ⟨Nat.zero_le _, Nat.zero_le _⟩ ?_
    exact ⟨rfl, rfl, rfl⟩
  · replace h := gI_neg h4 h
    refine g_iload_n (q0 := 8) (j := 2) rfl dX12_refIs_7 rfl ?_
    refine g_iconst (q0 := 9) rfl dX12_refIs_8 (k := ?_)
    refine g_bipush (q0 := 11) rfl dX12_refIs_9 (k := ?_)
    obtain ⟨r11, e11, h⟩ := gI_bd h
    refine g_callSq1 (as := [_, _, _]) (rest := []) mt_X12_in ms_X12_in ml_X12_182 dX12_refIs_11 (q0 := 14) rfl rfl (ok_in hOK e11) rfl ⟨by decide, by decide⟩ (Nat.le_of_ble_eq_true rfl) ⟨Nat.zero_le _, Nat.zero_le _⟩ ?_
    refine g_if_eq (q0 := 17) (tgt := 26) rfl dX12_refIs_14 (by decide) (fun h14 => ?_) (fun h14 => ?_)
    · replace h := gI_pos h14 h
      refine g_iconst (q0 := 27) rfl dX12_refIs_26 (k := ?_)
      rw [← Option.some.inj h]
      refine g_ireturn dX12_refIs_27 rfl ⟨Nat.zero_le _, Nat.zero_le _⟩ ?_
      exact ⟨rfl, rfl, rfl⟩
    · replace h := gI_neg h14 h
      refine g_iload_n (q0 := 18) (j := 3) rfl dX12_refIs_17 rfl ?_
      refine g_iconst (q0 := 19) rfl dX12_refIs_18 (k := ?_)
      refine g_iconst (q0 := 20) rfl dX12_refIs_19 (k := ?_)
      obtain ⟨r20, e20, h⟩ := gI_bd h
      refine g_callSq1 (as := [_, _, _]) (rest := []) mt_X12_in ms_X12_in ml_X12_182 dX12_refIs_20 (q0 := 23) rfl rfl (ok_in hOK e20) rfl ⟨by decide, by decide⟩ (Nat.le_of_ble_eq_true rfl) ⟨Nat.zero_le _, Nat.zero_le _⟩ ?_
      refine g_if_ne (q0 := 26) (tgt := 28) rfl dX12_refIs_23 (by decide) (fun h23 => ?_) (fun h23 => ?_)
      · replace h := gI_neg h23 h
        refine g_iload_n (q0 := 29) (j := 2) rfl dX12_refIs_28 rfl ?_
        refine g_istore (q0 := 31) (j := 4) (lv2 := [_, _, _, _, _, _, _]) rfl dX12_refIs_29 (by decide) rfl rfl ?_
        refine g_iconst (q0 := 32) rfl dX12_refIs_31 (k := ?_)
        refine g_istore (q0 := 34) (j := 5) (lv2 := [_, _, _, _, _, _, _]) rfl dX12_refIs_32 (by decide) rfl rfl ?_
        exact ok_refIs_34 hOK h
      · replace h := gI_pos h23 h
        refine g_iconst (q0 := 27) rfl dX12_refIs_26 (k := ?_)
        rw [← Option.some.inj h]
        refine g_ireturn dX12_refIs_27 rfl ⟨Nat.zero_le _, Nat.zero_le _⟩ ?_
        exact ⟨rfl, rfl, rfl⟩
-- ==== isPlan
theorem dX12_isPlan_0 : decode cX12_isPlan 0 = .ok (.iload_n 0, 1) := by decide +kernel
theorem dX12_isPlan_1 : decode cX12_isPlan 1 = .ok (.iconst 0, 1) := by decide +kernel
theorem dX12_isPlan_2 : decode cX12_isPlan 2 = .ok (.iconst 3, 1) := by decide +kernel
theorem dX12_isPlan_3 : decode cX12_isPlan 3 = .ok (.invokestatic 182, 3) := by decide +kernel
theorem dX12_isPlan_6 : decode cX12_isPlan 6 = .ok (.ireturn, 1) := by decide +kernel
noncomputable def F_isPlan (a0 : Int) : Option (Int) := (Option.bind (F_in a0 0 3) (fun r3 =>
    some r3))
theorem eq_isPlan (a0 : Int) : F_isPlan a0 = (Option.bind (F_in a0 0 3) (fun r3 =>
    some r3)) := rfl
theorem bo_isPlan {a0 : Int} {b : Int} (h : F_isPlan a0 = some b) : b = 0 ∨ b = 1 := by
  rw [eq_isPlan] at h
  obtain ⟨r3, e3, h⟩ := gI_bd h
  rw [← Option.some.inj h]
  exact (bo_in (b := r3) e3)
theorem ok_isPlan {sh : gS} {M : gM} {a0 : Int} {b : Int} (hOK : gOK sh M) (h : F_isPlan a0 = some b) : gC (gr 1 22) yX12_isPlan cX12_isPlan 1 (some (.boolean)) [(0, a0)] sh M (gPq sh (some (0, b)) M) := by
  rw [eq_isPlan] at h
  refine gC_ofA (lv := [_]) (by decide +kernel) (Nat.le_of_ble_eq_true rfl) rfl (fun hMw hav => ?_)
  refine g_iload_n (q0 := 1) (j := 0) rfl dX12_isPlan_0 rfl ?_
  refine g_iconst (q0 := 2) rfl dX12_isPlan_1 (k := ?_)
  refine g_iconst (q0 := 3) rfl dX12_isPlan_2 (k := ?_)
  obtain ⟨r3, e3, h⟩ := gI_bd h
  refine g_callSq1 (as := [_, _, _]) (rest := []) mt_X12_in ms_X12_in ml_X12_182 dX12_isPlan_3 (q0 := 6) rfl rfl (ok_in hOK e3) rfl ⟨by decide, by decide⟩ (Nat.le_of_ble_eq_true rfl) ⟨Nat.zero_le _, Nat.zero_le _⟩ ?_
  rw [← Option.some.inj h]
  refine g_zreturn dX12_isPlan_6 rfl (gnz (bo_in (b := r3) e3)) ⟨Nat.zero_le _, Nat.zero_le _⟩ ?_
  exact ⟨rfl, rfl, rfl⟩
-- ==== isToldPlan
theorem dX12_isToldPlan_0 : decode cX12_isToldPlan 0 = .ok (.aload_n 0, 1) := by decide +kernel
theorem dX12_isToldPlan_1 : decode cX12_isToldPlan 1 = .ok (.getfield 63, 3) := by decide +kernel
theorem dX12_isToldPlan_4 : decode cX12_isToldPlan 4 = .ok (.bipush 68, 2) := by decide +kernel
theorem dX12_isToldPlan_6 : decode cX12_isToldPlan 6 = .ok (.iload_n 1, 1) := by decide +kernel
theorem dX12_isToldPlan_7 : decode cX12_isToldPlan 7 = .ok (.imul, 1) := by decide +kernel
theorem dX12_isToldPlan_8 : decode cX12_isToldPlan 8 = .ok (.iconst 0, 1) := by decide +kernel
theorem dX12_isToldPlan_9 : decode cX12_isToldPlan 9 = .ok (.iadd, 1) := by decide +kernel
theorem dX12_isToldPlan_10 : decode cX12_isToldPlan 10 = .ok (.iaload, 1) := by decide +kernel
theorem dX12_isToldPlan_11 : decode cX12_isToldPlan 11 = .ok (.iconst 1, 1) := by decide +kernel
theorem dX12_isToldPlan_12 : decode cX12_isToldPlan 12 = .ok (.if_icmp .ne 7, 3) := by decide +kernel
theorem dX12_isToldPlan_15 : decode cX12_isToldPlan 15 = .ok (.iconst 1, 1) := by decide +kernel
theorem dX12_isToldPlan_16 : decode cX12_isToldPlan 16 = .ok (.goto 4, 3) := by decide +kernel
theorem dX12_isToldPlan_19 : decode cX12_isToldPlan 19 = .ok (.iconst 0, 1) := by decide +kernel
theorem dX12_isToldPlan_20 : decode cX12_isToldPlan 20 = .ok (.ireturn, 1) := by decide +kernel
noncomputable def F_isToldPlan (M : gM) (a1 : Int) : Option (Int) := (if 0 ≤ (gw32 ((gw32 ((68 : Int) * a1)) + (0 : Int))) ∧ (gw32 ((gw32 ((68 : Int) * a1)) + (0 : Int))) < 340 then
    (if (M 729 (gw32 ((gw32 ((68 : Int) * a1)) + (0 : Int)))) = 1 then
      some 1
    else
      some 0)
  else none)
theorem eq_isToldPlan (M : gM) (a1 : Int) : F_isToldPlan M a1 = (if 0 ≤ (gw32 ((gw32 ((68 : Int) * a1)) + (0 : Int))) ∧ (gw32 ((gw32 ((68 : Int) * a1)) + (0 : Int))) < 340 then
    (if (M 729 (gw32 ((gw32 ((68 : Int) * a1)) + (0 : Int)))) = 1 then
      some 1
    else
      some 0)
  else none) := rfl
theorem bo_isToldPlan {M : gM} {a1 : Int} {b : Int} (h : F_isToldPlan M a1 = some b) : b = 0 ∨ b = 1 := by
  rw [eq_isToldPlan] at h
  obtain ⟨g1, h⟩ := gI_gd h
  rcases gI_or h with h | h
  · rw [← Option.some.inj h]
    exact (Or.inr rfl)
  · rw [← Option.some.inj h]
    exact (Or.inl rfl)
theorem ok_isToldPlan {sh : gS} {M : gM} {a1 : Int} {b : Int} (hOK : gOK sh M) (h : F_isToldPlan M a1 = some b) : gC (gr 0 0) yX12_isToldPlan cX12_isToldPlan 2 (some (.boolean)) [(4, 711), (0, a1)] sh M (gPq sh (some (0, b)) M) := by
  rw [eq_isToldPlan] at h
  refine gC_ofA (lv := [_, _]) (by decide +kernel) (Nat.le_of_ble_eq_true rfl) rfl (fun hMw hav => ?_)
  refine g_aload_n (q0 := 1) (j := 0) rfl dX12_isToldPlan_0 rfl ?_
  refine g_getp (q0 := 4) (b := 729) rfl ff_X12_63 dX12_isToldPlan_1 rfl hOK (by decide) (sh_711 hOK) rfl (by decide) ?_
  refine g_bipush (q0 := 6) rfl dX12_isToldPlan_4 (k := ?_)
  refine g_iload_n (q0 := 7) (j := 1) rfl dX12_isToldPlan_6 rfl ?_
  refine g_imulw (q0 := 8) rfl dX12_isToldPlan_7 ?_
  refine g_iconst (q0 := 9) rfl dX12_isToldPlan_8 (k := ?_)
  refine g_iaddw (q0 := 10) rfl dX12_isToldPlan_9 ?_
  obtain ⟨g1, h⟩ := gI_gd h
  refine g_iald (q0 := 11) rfl dX12_isToldPlan_10 (sh_729 hOK) g1.1 g1.2 ?_
  refine g_iconst (q0 := 12) rfl dX12_isToldPlan_11 (k := ?_)
  refine g_icmp_ne (q0 := 15) (tgt := 19) rfl dX12_isToldPlan_12 (by decide) (fun h12 => ?_) (fun h12 => ?_)
  · replace h := gI_neg h12 h
    refine g_iconst (q0 := 20) rfl dX12_isToldPlan_19 (k := ?_)
    rw [← Option.some.inj h]
    refine g_zreturn dX12_isToldPlan_20 rfl (gnz (Or.inl rfl)) ⟨Nat.zero_le _, Nat.zero_le _⟩ ?_
    exact ⟨rfl, rfl, rfl⟩
  · replace h := gI_pos h12 h
    refine g_iconst (q0 := 16) rfl dX12_isToldPlan_15 (k := ?_)
    refine g_goto (tgt := 20) dX12_isToldPlan_16 (by decide) ?_
    rw [← Option.some.inj h]
    refine g_zreturn dX12_isToldPlan_20 rfl (gnz (Or.inr rfl)) ⟨Nat.zero_le _, Nat.zero_le _⟩ ?_
    exact ⟨rfl, rfl, rfl⟩
-- ==== ofPlan
theorem dX12_ofPlan_0 : decode cX12_ofPlan 0 = .ok (.aload_n 0, 1) := by decide +kernel
theorem dX12_ofPlan_1 : decode cX12_ofPlan 1 = .ok (.getfield 63, 3) := by decide +kernel
theorem dX12_ofPlan_4 : decode cX12_ofPlan 4 = .ok (.bipush 68, 2) := by decide +kernel
theorem dX12_ofPlan_6 : decode cX12_ofPlan 6 = .ok (.iload_n 1, 1) := by decide +kernel
theorem dX12_ofPlan_7 : decode cX12_ofPlan 7 = .ok (.imul, 1) := by decide +kernel
theorem dX12_ofPlan_8 : decode cX12_ofPlan 8 = .ok (.iload_n 2, 1) := by decide +kernel
theorem dX12_ofPlan_9 : decode cX12_ofPlan 9 = .ok (.iadd, 1) := by decide +kernel
theorem dX12_ofPlan_10 : decode cX12_ofPlan 10 = .ok (.iaload, 1) := by decide +kernel
theorem dX12_ofPlan_11 : decode cX12_ofPlan 11 = .ok (.ireturn, 1) := by decide +kernel
noncomputable def F_ofPlan (M : gM) (a1 a2 : Int) : Option (Int) := (if 0 ≤ (gw32 ((gw32 ((68 : Int) * a1)) + a2)) ∧ (gw32 ((gw32 ((68 : Int) * a1)) + a2)) < 340 then
    some (M 729 (gw32 ((gw32 ((68 : Int) * a1)) + a2)))
  else none)
theorem eq_ofPlan (M : gM) (a1 a2 : Int) : F_ofPlan M a1 a2 = (if 0 ≤ (gw32 ((gw32 ((68 : Int) * a1)) + a2)) ∧ (gw32 ((gw32 ((68 : Int) * a1)) + a2)) < 340 then
    some (M 729 (gw32 ((gw32 ((68 : Int) * a1)) + a2)))
  else none) := rfl
theorem ok_ofPlan {sh : gS} {M : gM} {a1 a2 : Int} {b : Int} (hOK : gOK sh M) (h : F_ofPlan M a1 a2 = some b) : gC (gr 0 0) yX12_ofPlan cX12_ofPlan 3 (some (.int)) [(4, 711), (0, a1), (0, a2)] sh M (gPq sh (some (0, b)) M) := by
  rw [eq_ofPlan] at h
  refine gC_ofA (lv := [_, _, _]) (by decide +kernel) (Nat.le_of_ble_eq_true rfl) rfl (fun hMw hav => ?_)
  refine g_aload_n (q0 := 1) (j := 0) rfl dX12_ofPlan_0 rfl ?_
  refine g_getp (q0 := 4) (b := 729) rfl ff_X12_63 dX12_ofPlan_1 rfl hOK (by decide) (sh_711 hOK) rfl (by decide) ?_
  refine g_bipush (q0 := 6) rfl dX12_ofPlan_4 (k := ?_)
  refine g_iload_n (q0 := 7) (j := 1) rfl dX12_ofPlan_6 rfl ?_
  refine g_imulw (q0 := 8) rfl dX12_ofPlan_7 ?_
  refine g_iload_n (q0 := 9) (j := 2) rfl dX12_ofPlan_8 rfl ?_
  refine g_iaddw (q0 := 10) rfl dX12_ofPlan_9 ?_
  obtain ⟨g1, h⟩ := gI_gd h
  refine g_iald (q0 := 11) rfl dX12_ofPlan_10 (sh_729 hOK) g1.1 g1.2 ?_
  rw [← Option.some.inj h]
  refine g_ireturn dX12_ofPlan_11 rfl ⟨Nat.zero_le _, Nat.zero_le _⟩ ?_
  exact ⟨rfl, rfl, rfl⟩
-- ==== listAt
theorem dX12_listAt_0 : decode cX12_listAt 0 = .ok (.iload_n 0, 1) := by decide +kernel
theorem dX12_listAt_1 : decode cX12_listAt 1 = .ok (.iconst 1, 1) := by decide +kernel
theorem dX12_listAt_2 : decode cX12_listAt 2 = .ok (.if_icmp .ne 8, 3) := by decide +kernel
theorem dX12_listAt_5 : decode cX12_listAt 5 = .ok (.bipush 18, 2) := by decide +kernel
theorem dX12_listAt_7 : decode cX12_listAt 7 = .ok (.goto 22, 3) := by decide +kernel
theorem dX12_listAt_10 : decode cX12_listAt 10 = .ok (.iload_n 0, 1) := by decide +kernel
theorem dX12_listAt_11 : decode cX12_listAt 11 = .ok (.iconst 2, 1) := by decide +kernel
theorem dX12_listAt_12 : decode cX12_listAt 12 = .ok (.if_icmp .ne 8, 3) := by decide +kernel
theorem dX12_listAt_15 : decode cX12_listAt 15 = .ok (.bipush 22, 2) := by decide +kernel
theorem dX12_listAt_17 : decode cX12_listAt 17 = .ok (.goto 12, 3) := by decide +kernel
theorem dX12_listAt_20 : decode cX12_listAt 20 = .ok (.bipush 18, 2) := by decide +kernel
theorem dX12_listAt_22 : decode cX12_listAt 22 = .ok (.bipush 8, 2) := by decide +kernel
theorem dX12_listAt_24 : decode cX12_listAt 24 = .ok (.iload_n 0, 1) := by decide +kernel
theorem dX12_listAt_25 : decode cX12_listAt 25 = .ok (.iconst 2, 1) := by decide +kernel
theorem dX12_listAt_26 : decode cX12_listAt 26 = .ok (.isub, 1) := by decide +kernel
theorem dX12_listAt_27 : decode cX12_listAt 27 = .ok (.imul, 1) := by decide +kernel
theorem dX12_listAt_28 : decode cX12_listAt 28 = .ok (.iadd, 1) := by decide +kernel
theorem dX12_listAt_29 : decode cX12_listAt 29 = .ok (.ireturn, 1) := by decide +kernel
noncomputable def F_listAt (a0 : Int) : Option (Int) := (if a0 = 1 then
    some 18
  else
    (if a0 = 2 then
      some 22
    else
      some (gw32 ((18 : Int) + (gw32 ((8 : Int) * (gw32 (a0 - (2 : Int)))))))))
theorem eq_listAt (a0 : Int) : F_listAt a0 = (if a0 = 1 then
    some 18
  else
    (if a0 = 2 then
      some 22
    else
      some (gw32 ((18 : Int) + (gw32 ((8 : Int) * (gw32 (a0 - (2 : Int))))))))) := rfl
theorem ok_listAt {sh : gS} {M : gM} {a0 : Int} {b : Int} (hOK : gOK sh M) (h : F_listAt a0 = some b) : gC (gr 0 0) yX12_listAt cX12_listAt 1 (some (.int)) [(0, a0)] sh M (gPq sh (some (0, b)) M) := by
  rw [eq_listAt] at h
  refine gC_ofA (lv := [_]) (by decide +kernel) (Nat.le_of_ble_eq_true rfl) rfl (fun hMw hav => ?_)
  refine g_iload_n (q0 := 1) (j := 0) rfl dX12_listAt_0 rfl ?_
  refine g_iconst (q0 := 2) rfl dX12_listAt_1 (k := ?_)
  refine g_icmp_ne (q0 := 5) (tgt := 10) rfl dX12_listAt_2 (by decide) (fun h2 => ?_) (fun h2 => ?_)
  · replace h := gI_neg h2 h
    refine g_iload_n (q0 := 11) (j := 0) rfl dX12_listAt_10 rfl ?_
    refine g_iconst (q0 := 12) rfl dX12_listAt_11 (k := ?_)
    refine g_icmp_ne (q0 := 15) (tgt := 20) rfl dX12_listAt_12 (by decide) (fun h12 => ?_) (fun h12 => ?_)
    · replace h := gI_neg h12 h
      refine g_bipush (q0 := 22) rfl dX12_listAt_20 (k := ?_)
      refine g_bipush (q0 := 24) rfl dX12_listAt_22 (k := ?_)
      refine g_iload_n (q0 := 25) (j := 0) rfl dX12_listAt_24 rfl ?_
      refine g_iconst (q0 := 26) rfl dX12_listAt_25 (k := ?_)
      refine g_isubw (q0 := 27) rfl dX12_listAt_26 ?_
      refine g_imulw (q0 := 28) rfl dX12_listAt_27 ?_
      refine g_iaddw (q0 := 29) rfl dX12_listAt_28 ?_
      rw [← Option.some.inj h]
      refine g_ireturn dX12_listAt_29 rfl ⟨Nat.zero_le _, Nat.zero_le _⟩ ?_
      exact ⟨rfl, rfl, rfl⟩
    · replace h := gI_pos h12 h
      refine g_bipush (q0 := 17) rfl dX12_listAt_15 (k := ?_)
      refine g_goto (tgt := 29) dX12_listAt_17 (by decide) ?_
      rw [← Option.some.inj h]
      refine g_ireturn dX12_listAt_29 rfl ⟨Nat.zero_le _, Nat.zero_le _⟩ ?_
      exact ⟨rfl, rfl, rfl⟩
  · replace h := gI_pos h2 h
    refine g_bipush (q0 := 7) rfl dX12_listAt_5 (k := ?_)
    refine g_goto (tgt := 29) dX12_listAt_7 (by decide) ?_
    rw [← Option.some.inj h]
    refine g_ireturn dX12_listAt_29 rfl ⟨Nat.zero_le _, Nat.zero_le _⟩ ?_
    exact ⟨rfl, rfl, rfl⟩
-- ==== manyOf
theorem dX12_manyOf_0 : decode cX12_manyOf 0 = .ok (.aload_n 0, 1) := by decide +kernel
theorem dX12_manyOf_1 : decode cX12_manyOf 1 = .ok (.getfield 63, 3) := by decide +kernel
theorem dX12_manyOf_4 : decode cX12_manyOf 4 = .ok (.bipush 68, 2) := by decide +kernel
theorem dX12_manyOf_6 : decode cX12_manyOf 6 = .ok (.iload_n 1, 1) := by decide +kernel
theorem dX12_manyOf_7 : decode cX12_manyOf 7 = .ok (.imul, 1) := by decide +kernel
theorem dX12_manyOf_8 : decode cX12_manyOf 8 = .ok (.iconst 2, 1) := by decide +kernel
theorem dX12_manyOf_9 : decode cX12_manyOf 9 = .ok (.iadd, 1) := by decide +kernel
theorem dX12_manyOf_10 : decode cX12_manyOf 10 = .ok (.iload_n 2, 1) := by decide +kernel
theorem dX12_manyOf_11 : decode cX12_manyOf 11 = .ok (.iadd, 1) := by decide +kernel
theorem dX12_manyOf_12 : decode cX12_manyOf 12 = .ok (.iaload, 1) := by decide +kernel
theorem dX12_manyOf_13 : decode cX12_manyOf 13 = .ok (.ireturn, 1) := by decide +kernel
noncomputable def F_manyOf (M : gM) (a1 a2 : Int) : Option (Int) := (if 0 ≤ (gw32 ((gw32 ((gw32 ((68 : Int) * a1)) + (2 : Int))) + a2)) ∧ (gw32 ((gw32 ((gw32 ((68 : Int) * a1)) + (2 : Int))) + a2)) < 340 then
    some (M 729 (gw32 ((gw32 ((gw32 ((68 : Int) * a1)) + (2 : Int))) + a2)))
  else none)
theorem eq_manyOf (M : gM) (a1 a2 : Int) : F_manyOf M a1 a2 = (if 0 ≤ (gw32 ((gw32 ((gw32 ((68 : Int) * a1)) + (2 : Int))) + a2)) ∧ (gw32 ((gw32 ((gw32 ((68 : Int) * a1)) + (2 : Int))) + a2)) < 340 then
    some (M 729 (gw32 ((gw32 ((gw32 ((68 : Int) * a1)) + (2 : Int))) + a2)))
  else none) := rfl
theorem ok_manyOf {sh : gS} {M : gM} {a1 a2 : Int} {b : Int} (hOK : gOK sh M) (h : F_manyOf M a1 a2 = some b) : gC (gr 0 0) yX12_manyOf cX12_manyOf 3 (some (.int)) [(4, 711), (0, a1), (0, a2)] sh M (gPq sh (some (0, b)) M) := by
  rw [eq_manyOf] at h
  refine gC_ofA (lv := [_, _, _]) (by decide +kernel) (Nat.le_of_ble_eq_true rfl) rfl (fun hMw hav => ?_)
  refine g_aload_n (q0 := 1) (j := 0) rfl dX12_manyOf_0 rfl ?_
  refine g_getp (q0 := 4) (b := 729) rfl ff_X12_63 dX12_manyOf_1 rfl hOK (by decide) (sh_711 hOK) rfl (by decide) ?_
  refine g_bipush (q0 := 6) rfl dX12_manyOf_4 (k := ?_)
  refine g_iload_n (q0 := 7) (j := 1) rfl dX12_manyOf_6 rfl ?_
  refine g_imulw (q0 := 8) rfl dX12_manyOf_7 ?_
  refine g_iconst (q0 := 9) rfl dX12_manyOf_8 (k := ?_)
  refine g_iaddw (q0 := 10) rfl dX12_manyOf_9 ?_
  refine g_iload_n (q0 := 11) (j := 2) rfl dX12_manyOf_10 rfl ?_
  refine g_iaddw (q0 := 12) rfl dX12_manyOf_11 ?_
  obtain ⟨g1, h⟩ := gI_gd h
  refine g_iald (q0 := 13) rfl dX12_manyOf_12 (sh_729 hOK) g1.1 g1.2 ?_
  rw [← Option.some.inj h]
  refine g_ireturn dX12_manyOf_13 rfl ⟨Nat.zero_le _, Nat.zero_le _⟩ ?_
  exact ⟨rfl, rfl, rfl⟩
-- ==== firstOf
theorem dX12_firstOf_0 : decode cX12_firstOf 0 = .ok (.aload_n 0, 1) := by decide +kernel
theorem dX12_firstOf_1 : decode cX12_firstOf 1 = .ok (.getfield 63, 3) := by decide +kernel
theorem dX12_firstOf_4 : decode cX12_firstOf 4 = .ok (.bipush 68, 2) := by decide +kernel
theorem dX12_firstOf_6 : decode cX12_firstOf 6 = .ok (.iload_n 1, 1) := by decide +kernel
theorem dX12_firstOf_7 : decode cX12_firstOf 7 = .ok (.imul, 1) := by decide +kernel
theorem dX12_firstOf_8 : decode cX12_firstOf 8 = .ok (.iload_n 2, 1) := by decide +kernel
theorem dX12_firstOf_9 : decode cX12_firstOf 9 = .ok (.invokestatic 363, 3) := by decide +kernel
theorem dX12_firstOf_12 : decode cX12_firstOf 12 = .ok (.iadd, 1) := by decide +kernel
theorem dX12_firstOf_13 : decode cX12_firstOf 13 = .ok (.iload_n 3, 1) := by decide +kernel
theorem dX12_firstOf_14 : decode cX12_firstOf 14 = .ok (.iadd, 1) := by decide +kernel
theorem dX12_firstOf_15 : decode cX12_firstOf 15 = .ok (.iaload, 1) := by decide +kernel
theorem dX12_firstOf_16 : decode cX12_firstOf 16 = .ok (.ireturn, 1) := by decide +kernel
noncomputable def F_firstOf (M : gM) (a1 a2 a3 : Int) : Option (Int) := (Option.bind (F_listAt a2) (fun r9 =>
    (if 0 ≤ (gw32 ((gw32 ((gw32 ((68 : Int) * a1)) + r9)) + a3)) ∧ (gw32 ((gw32 ((gw32 ((68 : Int) * a1)) + r9)) + a3)) < 340 then
      some (M 729 (gw32 ((gw32 ((gw32 ((68 : Int) * a1)) + r9)) + a3)))
    else none)))
theorem eq_firstOf (M : gM) (a1 a2 a3 : Int) : F_firstOf M a1 a2 a3 = (Option.bind (F_listAt a2) (fun r9 =>
    (if 0 ≤ (gw32 ((gw32 ((gw32 ((68 : Int) * a1)) + r9)) + a3)) ∧ (gw32 ((gw32 ((gw32 ((68 : Int) * a1)) + r9)) + a3)) < 340 then
      some (M 729 (gw32 ((gw32 ((gw32 ((68 : Int) * a1)) + r9)) + a3)))
    else none))) := rfl
theorem ok_firstOf {sh : gS} {M : gM} {a1 a2 a3 : Int} {b : Int} (hOK : gOK sh M) (h : F_firstOf M a1 a2 a3 = some b) : gC (gr 1 20) yX12_firstOf cX12_firstOf 4 (some (.int)) [(4, 711), (0, a1), (0, a2), (0, a3)] sh M (gPq sh (some (0, b)) M) := by
  rw [eq_firstOf] at h
  refine gC_ofA (lv := [_, _, _, _]) (by decide +kernel) (Nat.le_of_ble_eq_true rfl) rfl (fun hMw hav => ?_)
  refine g_aload_n (q0 := 1) (j := 0) rfl dX12_firstOf_0 rfl ?_
  refine g_getp (q0 := 4) (b := 729) rfl ff_X12_63 dX12_firstOf_1 rfl hOK (by decide) (sh_711 hOK) rfl (by decide) ?_
  refine g_bipush (q0 := 6) rfl dX12_firstOf_4 (k := ?_)
  refine g_iload_n (q0 := 7) (j := 1) rfl dX12_firstOf_6 rfl ?_
  refine g_imulw (q0 := 8) rfl dX12_firstOf_7 ?_
  refine g_iload_n (q0 := 9) (j := 2) rfl dX12_firstOf_8 rfl ?_
  obtain ⟨r9, e9, h⟩ := gI_bd h
  refine g_callSq1 (as := [_]) (rest := [_, _]) mt_X12_listAt ms_X12_listAt ml_X12_363 dX12_firstOf_9 (q0 := 12) rfl rfl (ok_listAt hOK e9) rfl ⟨by decide, by decide⟩ (Nat.le_of_ble_eq_true rfl) ⟨Nat.zero_le _, Nat.zero_le _⟩ ?_
  refine g_iaddw (q0 := 13) rfl dX12_firstOf_12 ?_
  refine g_iload_n (q0 := 14) (j := 3) rfl dX12_firstOf_13 rfl ?_
  refine g_iaddw (q0 := 15) rfl dX12_firstOf_14 ?_
  obtain ⟨g1, h⟩ := gI_gd h
  refine g_iald (q0 := 16) rfl dX12_firstOf_15 (sh_729 hOK) g1.1 g1.2 ?_
  rw [← Option.some.inj h]
  refine g_ireturn dX12_firstOf_16 rfl ⟨Nat.zero_le _, Nat.zero_le _⟩ ?_
  exact ⟨rfl, rfl, rfl⟩
-- ==== secondOf
theorem dX12_secondOf_0 : decode cX12_secondOf 0 = .ok (.aload_n 0, 1) := by decide +kernel
theorem dX12_secondOf_1 : decode cX12_secondOf 1 = .ok (.getfield 63, 3) := by decide +kernel
theorem dX12_secondOf_4 : decode cX12_secondOf 4 = .ok (.bipush 68, 2) := by decide +kernel
theorem dX12_secondOf_6 : decode cX12_secondOf 6 = .ok (.iload_n 1, 1) := by decide +kernel
theorem dX12_secondOf_7 : decode cX12_secondOf 7 = .ok (.imul, 1) := by decide +kernel
theorem dX12_secondOf_8 : decode cX12_secondOf 8 = .ok (.iload_n 2, 1) := by decide +kernel
theorem dX12_secondOf_9 : decode cX12_secondOf 9 = .ok (.invokestatic 363, 3) := by decide +kernel
theorem dX12_secondOf_12 : decode cX12_secondOf 12 = .ok (.iadd, 1) := by decide +kernel
theorem dX12_secondOf_13 : decode cX12_secondOf 13 = .ok (.iconst 4, 1) := by decide +kernel
theorem dX12_secondOf_14 : decode cX12_secondOf 14 = .ok (.iadd, 1) := by decide +kernel
theorem dX12_secondOf_15 : decode cX12_secondOf 15 = .ok (.iload_n 3, 1) := by decide +kernel
theorem dX12_secondOf_16 : decode cX12_secondOf 16 = .ok (.iadd, 1) := by decide +kernel
theorem dX12_secondOf_17 : decode cX12_secondOf 17 = .ok (.iaload, 1) := by decide +kernel
theorem dX12_secondOf_18 : decode cX12_secondOf 18 = .ok (.ireturn, 1) := by decide +kernel
noncomputable def F_secondOf (M : gM) (a1 a2 a3 : Int) : Option (Int) := (Option.bind (F_listAt a2) (fun r9 =>
    (if 0 ≤ (gw32 ((gw32 ((gw32 ((gw32 ((68 : Int) * a1)) + r9)) + (4 : Int))) + a3)) ∧ (gw32 ((gw32 ((gw32 ((gw32 ((68 : Int) * a1)) + r9)) + (4 : Int))) + a3)) < 340 then
      some (M 729 (gw32 ((gw32 ((gw32 ((gw32 ((68 : Int) * a1)) + r9)) + (4 : Int))) + a3)))
    else none)))
theorem eq_secondOf (M : gM) (a1 a2 a3 : Int) : F_secondOf M a1 a2 a3 = (Option.bind (F_listAt a2) (fun r9 =>
    (if 0 ≤ (gw32 ((gw32 ((gw32 ((gw32 ((68 : Int) * a1)) + r9)) + (4 : Int))) + a3)) ∧ (gw32 ((gw32 ((gw32 ((gw32 ((68 : Int) * a1)) + r9)) + (4 : Int))) + a3)) < 340 then
      some (M 729 (gw32 ((gw32 ((gw32 ((gw32 ((68 : Int) * a1)) + r9)) + (4 : Int))) + a3)))
    else none))) := rfl
theorem ok_secondOf {sh : gS} {M : gM} {a1 a2 a3 : Int} {b : Int} (hOK : gOK sh M) (h : F_secondOf M a1 a2 a3 = some b) : gC (gr 1 20) yX12_secondOf cX12_secondOf 4 (some (.int)) [(4, 711), (0, a1), (0, a2), (0, a3)] sh M (gPq sh (some (0, b)) M) := by
  rw [eq_secondOf] at h
  refine gC_ofA (lv := [_, _, _, _]) (by decide +kernel) (Nat.le_of_ble_eq_true rfl) rfl (fun hMw hav => ?_)
  refine g_aload_n (q0 := 1) (j := 0) rfl dX12_secondOf_0 rfl ?_
  refine g_getp (q0 := 4) (b := 729) rfl ff_X12_63 dX12_secondOf_1 rfl hOK (by decide) (sh_711 hOK) rfl (by decide) ?_
  refine g_bipush (q0 := 6) rfl dX12_secondOf_4 (k := ?_)
  refine g_iload_n (q0 := 7) (j := 1) rfl dX12_secondOf_6 rfl ?_
  refine g_imulw (q0 := 8) rfl dX12_secondOf_7 ?_
  refine g_iload_n (q0 := 9) (j := 2) rfl dX12_secondOf_8 rfl ?_
  obtain ⟨r9, e9, h⟩ := gI_bd h
  refine g_callSq1 (as := [_]) (rest := [_, _]) mt_X12_listAt ms_X12_listAt ml_X12_363 dX12_secondOf_9 (q0 := 12) rfl rfl (ok_listAt hOK e9) rfl ⟨by decide, by decide⟩ (Nat.le_of_ble_eq_true rfl) ⟨Nat.zero_le _, Nat.zero_le _⟩ ?_
  refine g_iaddw (q0 := 13) rfl dX12_secondOf_12 ?_
  refine g_iconst (q0 := 14) rfl dX12_secondOf_13 (k := ?_)
  refine g_iaddw (q0 := 15) rfl dX12_secondOf_14 ?_
  refine g_iload_n (q0 := 16) (j := 3) rfl dX12_secondOf_15 rfl ?_
  refine g_iaddw (q0 := 17) rfl dX12_secondOf_16 ?_
  obtain ⟨g1, h⟩ := gI_gd h
  refine g_iald (q0 := 18) rfl dX12_secondOf_17 (sh_729 hOK) g1.1 g1.2 ?_
  rw [← Option.some.inj h]
  refine g_ireturn dX12_secondOf_18 rfl ⟨Nat.zero_le _, Nat.zero_le _⟩ ?_
  exact ⟨rfl, rfl, rfl⟩
-- ==== readsWord
theorem dX12_readsWord_0 : decode cX12_readsWord 0 = .ok (.aload_n 0, 1) := by decide +kernel
theorem dX12_readsWord_1 : decode cX12_readsWord 1 = .ok (.aload_n 0, 1) := by decide +kernel
theorem dX12_readsWord_2 : decode cX12_readsWord 2 = .ok (.getfield 256, 3) := by decide +kernel
theorem dX12_readsWord_5 : decode cX12_readsWord 5 = .ok (.putfield 366, 3) := by decide +kernel
theorem dX12_readsWord_8 : decode cX12_readsWord 8 = .ok (.aload_n 0, 1) := by decide +kernel
theorem dX12_readsWord_9 : decode cX12_readsWord 9 = .ok (.iconst 0, 1) := by decide +kernel
theorem dX12_readsWord_10 : decode cX12_readsWord 10 = .ok (.putfield 369, 3) := by decide +kernel
theorem dX12_readsWord_13 : decode cX12_readsWord 13 = .ok (.aload_n 0, 1) := by decide +kernel
theorem dX12_readsWord_14 : decode cX12_readsWord 14 = .ok (.invokevirtual 265, 3) := by decide +kernel
theorem dX12_readsWord_17 : decode cX12_readsWord 17 = .ok (.invokestatic 281, 3) := by decide +kernel
theorem dX12_readsWord_20 : decode cX12_readsWord 20 = .ok (.ifCond .eq 51, 3) := by decide +kernel
theorem dX12_readsWord_23 : decode cX12_readsWord 23 = .ok (.aload_n 0, 1) := by decide +kernel
theorem dX12_readsWord_24 : decode cX12_readsWord 24 = .ok (.getfield 256, 3) := by decide +kernel
theorem dX12_readsWord_27 : decode cX12_readsWord 27 = .ok (.aload_n 0, 1) := by decide +kernel
theorem dX12_readsWord_28 : decode cX12_readsWord 28 = .ok (.getfield 366, 3) := by decide +kernel
theorem dX12_readsWord_31 : decode cX12_readsWord 31 = .ok (.isub, 1) := by decide +kernel
theorem dX12_readsWord_32 : decode cX12_readsWord 32 = .ok (.bipush 6, 2) := by decide +kernel
theorem dX12_readsWord_34 : decode cX12_readsWord 34 = .ok (.if_icmp .ge 24, 3) := by decide +kernel
theorem dX12_readsWord_37 : decode cX12_readsWord 37 = .ok (.aload_n 0, 1) := by decide +kernel
theorem dX12_readsWord_38 : decode cX12_readsWord 38 = .ok (.bipush 32, 2) := by decide +kernel
theorem dX12_readsWord_40 : decode cX12_readsWord 40 = .ok (.aload_n 0, 1) := by decide +kernel
theorem dX12_readsWord_41 : decode cX12_readsWord 41 = .ok (.getfield 369, 3) := by decide +kernel
theorem dX12_readsWord_44 : decode cX12_readsWord 44 = .ok (.imul, 1) := by decide +kernel
theorem dX12_readsWord_45 : decode cX12_readsWord 45 = .ok (.aload_n 0, 1) := by decide +kernel
theorem dX12_readsWord_46 : decode cX12_readsWord 46 = .ok (.invokevirtual 265, 3) := by decide +kernel
theorem dX12_readsWord_49 : decode cX12_readsWord 49 = .ok (.iadd, 1) := by decide +kernel
theorem dX12_readsWord_50 : decode cX12_readsWord 50 = .ok (.bipush 97, 2) := by decide +kernel
theorem dX12_readsWord_52 : decode cX12_readsWord 52 = .ok (.isub, 1) := by decide +kernel
theorem dX12_readsWord_53 : decode cX12_readsWord 53 = .ok (.iconst 1, 1) := by decide +kernel
theorem dX12_readsWord_54 : decode cX12_readsWord 54 = .ok (.iadd, 1) := by decide +kernel
theorem dX12_readsWord_55 : decode cX12_readsWord 55 = .ok (.putfield 369, 3) := by decide +kernel
theorem dX12_readsWord_58 : decode cX12_readsWord 58 = .ok (.aload_n 0, 1) := by decide +kernel
theorem dX12_readsWord_59 : decode cX12_readsWord 59 = .ok (.aload_n 0, 1) := by decide +kernel
theorem dX12_readsWord_60 : decode cX12_readsWord 60 = .ok (.getfield 256, 3) := by decide +kernel
theorem dX12_readsWord_63 : decode cX12_readsWord 63 = .ok (.iconst 1, 1) := by decide +kernel
theorem dX12_readsWord_64 : decode cX12_readsWord 64 = .ok (.iadd, 1) := by decide +kernel
theorem dX12_readsWord_65 : decode cX12_readsWord 65 = .ok (.putfield 256, 3) := by decide +kernel
theorem dX12_readsWord_68 : decode cX12_readsWord 68 = .ok (.goto (-55), 3) := by decide +kernel
theorem dX12_readsWord_71 : decode cX12_readsWord 71 = .ok (.aload_n 0, 1) := by decide +kernel
theorem dX12_readsWord_72 : decode cX12_readsWord 72 = .ok (.getfield 256, 3) := by decide +kernel
theorem dX12_readsWord_75 : decode cX12_readsWord 75 = .ok (.aload_n 0, 1) := by decide +kernel
theorem dX12_readsWord_76 : decode cX12_readsWord 76 = .ok (.getfield 366, 3) := by decide +kernel
theorem dX12_readsWord_79 : decode cX12_readsWord 79 = .ok (.isub, 1) := by decide +kernel
theorem dX12_readsWord_80 : decode cX12_readsWord 80 = .ok (.bipush 6, 2) := by decide +kernel
theorem dX12_readsWord_82 : decode cX12_readsWord 82 = .ok (.if_icmp .le 8, 3) := by decide +kernel
theorem dX12_readsWord_85 : decode cX12_readsWord 85 = .ok (.aload_n 0, 1) := by decide +kernel
theorem dX12_readsWord_86 : decode cX12_readsWord 86 = .ok (.iconst (-1), 1) := by decide +kernel
theorem dX12_readsWord_87 : decode cX12_readsWord 87 = .ok (.putfield 369, 3) := by decide +kernel
theorem dX12_readsWord_90 : decode cX12_readsWord 90 = .ok (.return_, 1) := by decide +kernel
noncomputable def st_readsWord : Nat × List Int × gM → Option ((Nat × List Int × gM) ⊕ (gM))
  | (0, [], M) => (Option.bind (F_here M) (fun r14 =>
      (Option.bind (F_isSmall r14) (fun r17 =>
        (if r17 = 0 then
          (if (6 : Int) < (gw32 ((M 711 19) - (M 711 30))) then
            some (.inr (gU M 711 29 (-1)))
          else
            some (.inr M))
        else
          (if (gw32 ((M 711 19) - (M 711 30))) < 6 then
            (Option.bind (F_here M) (fun r46 =>
              some (.inl (0, [], (gU (gU M 711 29 (gw32 ((gw32 ((gw32 ((gw32 ((32 : Int) * (M 711 29))) + r46)) - (97 : Int))) + (1 : Int)))) 711 19 (gw32 (((gU M 711 29 (gw32 ((gw32 ((gw32 ((gw32 ((32 : Int) * (M 711 29))) + r46)) - (97 : Int))) + (1 : Int)))) 711 19) + (1 : Int))))))))
          else
            some (.inl (0, [], (gU M 711 19 (gw32 ((M 711 19) + (1 : Int))))))))))))
  | _ => none
theorem sk_readsWord_13 (k : Nat × List Int × gM → Option (gM)) (M : gM) : gWk k (st_readsWord (0, [], M)) = (Option.bind (F_here M) (fun r14 =>
    (Option.bind (F_isSmall r14) (fun r17 =>
      (if r17 = 0 then
        (if (6 : Int) < (gw32 ((M 711 19) - (M 711 30))) then
          some (gU M 711 29 (-1))
        else
          some M)
      else
        (if (gw32 ((M 711 19) - (M 711 30))) < 6 then
          (Option.bind (F_here M) (fun r46 =>
            k (0, [], (gU (gU M 711 29 (gw32 ((gw32 ((gw32 ((gw32 ((32 : Int) * (M 711 29))) + r46)) - (97 : Int))) + (1 : Int)))) 711 19 (gw32 (((gU M 711 29 (gw32 ((gw32 ((gw32 ((gw32 ((32 : Int) * (M 711 29))) + r46)) - (97 : Int))) + (1 : Int)))) 711 19) + (1 : Int)))))))
        else
          k (0, [], (gU M 711 19 (gw32 ((M 711 19) + (1 : Int))))))))))) := by
  simp only [st_readsWord, gWk_ite, gWk_bind, gWk_inl, gWk_inr, gWk_none]
noncomputable def F_readsWord_13 (M : gM) : Option (gM) := gWh (st_readsWord) (0, [], M)
theorem eq_readsWord_13 (M : gM) : F_readsWord_13 M = (Option.bind (F_here M) (fun r14 =>
    (Option.bind (F_isSmall r14) (fun r17 =>
      (if r17 = 0 then
        (if (6 : Int) < (gw32 ((M 711 19) - (M 711 30))) then
          some (gU M 711 29 (-1))
        else
          some M)
      else
        (if (gw32 ((M 711 19) - (M 711 30))) < 6 then
          (Option.bind (F_here M) (fun r46 =>
            F_readsWord_13 (gU (gU M 711 29 (gw32 ((gw32 ((gw32 ((gw32 ((32 : Int) * (M 711 29))) + r46)) - (97 : Int))) + (1 : Int)))) 711 19 (gw32 (((gU M 711 29 (gw32 ((gw32 ((gw32 ((gw32 ((32 : Int) * (M 711 29))) + r46)) - (97 : Int))) + (1 : Int)))) 711 19) + (1 : Int))))))
        else
          F_readsWord_13 (gU M 711 19 (gw32 ((M 711 19) + (1 : Int)))))))))) := (gWh_eq _).trans (sk_readsWord_13 _ M)
noncomputable def F_readsWord (M : gM) : Option (gM) := F_readsWord_13 (gU (gU M 711 30 (M 711 19)) 711 29 0)
theorem eq_readsWord (M : gM) : F_readsWord M = F_readsWord_13 (gU (gU M 711 30 (M 711 19)) 711 29 0) := rfl
theorem frp_readsWord : ∀ (s : Nat × List Int × gM) (b : gM), gWh (st_readsWord) s = some b → (∀ (M : gM), s = (0, [], M) → gFr [] [19, 29, 30] M b) := by
  refine gWh_ind (fun k hk s b h => ?_)
  · rintro  M rfl
    rw [sk_readsWord_13] at h
    obtain ⟨r14, e14, h⟩ := gI_bd h
    obtain ⟨r17, e17, h⟩ := gI_bd h
    rcases gI_or h with h | h
    · rcases gI_or h with h | h
      · rw [← Option.some.inj h]
        exact (gFr_f (gFr_r [] [19, 29, 30] _) (.tail _ (.head _)))
      · rw [← Option.some.inj h]
        exact (gFr_r [] [19, 29, 30] _)
    · rcases gI_or h with h | h
      · obtain ⟨r46, e46, h⟩ := gI_bd h
        exact gFr_t (gFr_f (gFr_f (gFr_r [] [19, 29, 30] _) (.tail _ (.head _))) (.head _)) ((hk _ _ h) _ rfl) (fun _ z => z) (fun _ z => z)
      · exact gFr_t (gFr_f (gFr_r [] [19, 29, 30] _) (.head _)) ((hk _ _ h) _ rfl) (fun _ z => z) (fun _ z => z)
theorem fr_readsWord_13 {M : gM} {b : gM} (h : F_readsWord_13 M = some b) : gFr [] [19, 29, 30] M b :=
  (frp_readsWord _ _ h) _ rfl
theorem fr_readsWord {M : gM} {b : gM} (h : F_readsWord M = some b) : gFr [] [19, 29, 30] M b := by
  rw [eq_readsWord] at h
  exact gFr_t (gFr_f (gFr_f (gFr_r [] [19, 29, 30] _) (.tail _ (.tail _ (.head _)))) (.tail _ (.head _))) (fr_readsWord_13 h) (fun _ z => z) (fun _ z => z)
theorem okp_readsWord {sh : gS} : ∀ (s : Nat × List Int × gM) (b : gM), gWh (st_readsWord) s = some b → (∀ (M : gM), s = (0, [], M) → gOK sh M → gA (gr 2 42) yX12_readsWord cX12_readsWord 1 none (gPq sh none b) (0, 0) 13 [(4, 711)] [] sh M) := by
  refine gWh_ind (fun k hk s b h => ?_)
  · rintro  M rfl hOK
    rw [sk_readsWord_13] at h
    refine g_aload_n (q0 := 14) (j := 0) rfl dX12_readsWord_13 rfl ?_
    obtain ⟨r14, e14, h⟩ := gI_bd h
    refine g_callVq1 (as := []) (rest := []) mt_X12_here mi_X12_here se_X12_here ml_X12_265 dX12_readsWord_14 (q0 := 17) rfl rfl (sh_711 hOK) rfl rfl (ok_here hOK e14) rfl ⟨by decide, by decide⟩ (Nat.le_of_ble_eq_true rfl) ⟨Nat.zero_le _, Nat.zero_le _⟩ ?_
    obtain ⟨r17, e17, h⟩ := gI_bd h
    refine g_callSq1 (as := [_]) (rest := []) mt_X12_isSmall ms_X12_isSmall ml_X12_281 dX12_readsWord_17 (q0 := 20) rfl rfl (ok_isSmall hOK e17) rfl ⟨by decide, by decide⟩ (Nat.le_of_ble_eq_true rfl) ⟨Nat.zero_le _, Nat.zero_le _⟩ ?_
    refine g_if_eq (q0 := 23) (tgt := 71) rfl dX12_readsWord_20 (by decide) (fun h20 => ?_) (fun h20 => ?_)
    · replace h := gI_pos h20 h
      refine g_aload_n (q0 := 72) (j := 0) rfl dX12_readsWord_71 rfl ?_
      refine g_getf (q0 := 75) (t := 0) (fi := 19) rfl rfl ff_X12_256 dX12_readsWord_72 rfl (sh_711 hOK) ?_
      refine g_aload_n (q0 := 76) (j := 0) rfl dX12_readsWord_75 rfl ?_
      refine g_getf (q0 := 79) (t := 0) (fi := 30) rfl rfl ff_X12_366 dX12_readsWord_76 rfl (sh_711 hOK) ?_
      refine g_isubw (q0 := 80) rfl dX12_readsWord_79 ?_
      refine g_bipush (q0 := 82) rfl dX12_readsWord_80 (k := ?_)
      refine g_icmp_le (q0 := 85) (tgt := 90) rfl dX12_readsWord_82 (by decide) (fun h82 => ?_) (fun h82 => ?_)
      · replace h := gI_neg (Int.not_lt.mpr h82) h
        rw [← Option.some.inj h]
        refine g_return dX12_readsWord_90 rfl ⟨Nat.zero_le _, Nat.zero_le _⟩ ?_
        exact ⟨rfl, rfl, rfl⟩
      · replace h := gI_pos h82 h
        refine g_aload_n (q0 := 86) (j := 0) rfl dX12_readsWord_85 rfl ?_
        refine g_iconst (q0 := 87) rfl dX12_readsWord_86 (k := ?_)
        refine g_put (q0 := 90) (t := 0) (fi := 29) rfl rfl ff_X12_369 dX12_readsWord_87 rfl (sh_711 hOK) rfl (fun _ => ⟨rfl, rfl⟩) ?_
        have hOK1 : gOK sh (gU M 711 29 (-1)) := gOK_o hOK (sh_711 hOK) (f := 29) rfl rfl
        rw [← Option.some.inj h]
        refine g_return dX12_readsWord_90 rfl ⟨Nat.zero_le _, Nat.zero_le _⟩ ?_
        exact ⟨rfl, rfl, rfl⟩
    · replace h := gI_neg h20 h
      refine g_aload_n (q0 := 24) (j := 0) rfl dX12_readsWord_23 rfl ?_
      refine g_getf (q0 := 27) (t := 0) (fi := 19) rfl rfl ff_X12_256 dX12_readsWord_24 rfl (sh_711 hOK) ?_
      refine g_aload_n (q0 := 28) (j := 0) rfl dX12_readsWord_27 rfl ?_
      refine g_getf (q0 := 31) (t := 0) (fi := 30) rfl rfl ff_X12_366 dX12_readsWord_28 rfl (sh_711 hOK) ?_
      refine g_isubw (q0 := 32) rfl dX12_readsWord_31 ?_
      refine g_bipush (q0 := 34) rfl dX12_readsWord_32 (k := ?_)
      refine g_icmp_ge (q0 := 37) (tgt := 58) rfl dX12_readsWord_34 (by decide) (fun h34 => ?_) (fun h34 => ?_)
      · replace h := gI_neg (Int.not_lt.mpr h34) h
        refine g_aload_n (q0 := 59) (j := 0) rfl dX12_readsWord_58 rfl ?_
        refine g_aload_n (q0 := 60) (j := 0) rfl dX12_readsWord_59 rfl ?_
        refine g_getf (q0 := 63) (t := 0) (fi := 19) rfl rfl ff_X12_256 dX12_readsWord_60 rfl (sh_711 hOK) ?_
        refine g_iconst (q0 := 64) rfl dX12_readsWord_63 (k := ?_)
        refine g_iaddw (q0 := 65) rfl dX12_readsWord_64 ?_
        refine g_put (q0 := 68) (t := 0) (fi := 19) rfl rfl ff_X12_256 dX12_readsWord_65 rfl (sh_711 hOK) rfl (fun _ => ⟨rfl, rfl⟩) ?_
        have hOK2 : gOK sh (gU M 711 19 (gw32 ((M 711 19) + (1 : Int)))) := gOK_o hOK (sh_711 hOK) (f := 19) rfl rfl
        refine g_goto (tgt := 13) dX12_readsWord_68 (by decide) ?_
        exact (hk _ _ h) _ rfl hOK2
      · replace h := gI_pos h34 h
        refine g_aload_n (q0 := 38) (j := 0) rfl dX12_readsWord_37 rfl ?_
        refine g_bipush (q0 := 40) rfl dX12_readsWord_38 (k := ?_)
        refine g_aload_n (q0 := 41) (j := 0) rfl dX12_readsWord_40 rfl ?_
        refine g_getf (q0 := 44) (t := 0) (fi := 29) rfl rfl ff_X12_369 dX12_readsWord_41 rfl (sh_711 hOK) ?_
        refine g_imulw (q0 := 45) rfl dX12_readsWord_44 ?_
        refine g_aload_n (q0 := 46) (j := 0) rfl dX12_readsWord_45 rfl ?_
        obtain ⟨r46, e46, h⟩ := gI_bd h
        refine g_callVq1 (as := []) (rest := [_, _]) mt_X12_here mi_X12_here se_X12_here ml_X12_265 dX12_readsWord_46 (q0 := 49) rfl rfl (sh_711 hOK) rfl rfl (ok_here hOK e46) rfl ⟨by decide, by decide⟩ (Nat.le_of_ble_eq_true rfl) ⟨Nat.zero_le _, Nat.zero_le _⟩ ?_
        refine g_iaddw (q0 := 50) rfl dX12_readsWord_49 ?_
        refine g_bipush (q0 := 52) rfl dX12_readsWord_50 (k := ?_)
        refine g_isubw (q0 := 53) rfl dX12_readsWord_52 ?_
        refine g_iconst (q0 := 54) rfl dX12_readsWord_53 (k := ?_)
        refine g_iaddw (q0 := 55) rfl dX12_readsWord_54 ?_
        refine g_put (q0 := 58) (t := 0) (fi := 29) rfl rfl ff_X12_369 dX12_readsWord_55 rfl (sh_711 hOK) rfl (fun _ => ⟨rfl, rfl⟩) ?_
        have hOK3 : gOK sh (gU M 711 29 (gw32 ((gw32 ((gw32 ((gw32 ((32 : Int) * (M 711 29))) + r46)) - (97 : Int))) + (1 : Int)))) := gOK_o hOK (sh_711 hOK) (f := 29) rfl rfl
        refine g_aload_n (q0 := 59) (j := 0) rfl dX12_readsWord_58 rfl ?_
        refine g_aload_n (q0 := 60) (j := 0) rfl dX12_readsWord_59 rfl ?_
        refine g_getf (q0 := 63) (t := 0) (fi := 19) rfl rfl ff_X12_256 dX12_readsWord_60 rfl (sh_711 hOK3) ?_
        refine g_iconst (q0 := 64) rfl dX12_readsWord_63 (k := ?_)
        refine g_iaddw (q0 := 65) rfl dX12_readsWord_64 ?_
        refine g_put (q0 := 68) (t := 0) (fi := 19) rfl rfl ff_X12_256 dX12_readsWord_65 rfl (sh_711 hOK3) rfl (fun _ => ⟨rfl, rfl⟩) ?_
        have hOK4 : gOK sh (gU (gU M 711 29 (gw32 ((gw32 ((gw32 ((gw32 ((32 : Int) * (M 711 29))) + r46)) - (97 : Int))) + (1 : Int)))) 711 19 (gw32 (((gU M 711 29 (gw32 ((gw32 ((gw32 ((gw32 ((32 : Int) * (M 711 29))) + r46)) - (97 : Int))) + (1 : Int)))) 711 19) + (1 : Int)))) := gOK_o hOK3 (sh_711 hOK3) (f := 19) rfl rfl
        refine g_goto (tgt := 13) dX12_readsWord_68 (by decide) ?_
        exact (hk _ _ h) _ rfl hOK4
theorem ok_readsWord_13 {sh : gS} {M : gM} {b : gM} (hOK : gOK sh M) (h : F_readsWord_13 M = some b) : gA (gr 2 42) yX12_readsWord cX12_readsWord 1 none (gPq sh none b) (0, 0) 13 [(4, 711)] [] sh M :=
  (okp_readsWord _ _ h) _ rfl hOK
theorem ok_readsWord {sh : gS} {M : gM} {b : gM} (hOK : gOK sh M) (h : F_readsWord M = some b) : gC (gr 2 42) yX12_readsWord cX12_readsWord 1 none [(4, 711)] sh M (gPq sh none b) := by
  rw [eq_readsWord] at h
  refine gC_ofA (lv := [_]) (by decide +kernel) (Nat.le_of_ble_eq_true rfl) rfl (fun hMw hav => ?_)
  refine g_aload_n (q0 := 1) (j := 0) rfl dX12_readsWord_0 rfl ?_
  refine g_aload_n (q0 := 2) (j := 0) rfl dX12_readsWord_1 rfl ?_
  refine g_getf (q0 := 5) (t := 0) (fi := 19) rfl rfl ff_X12_256 dX12_readsWord_2 rfl (sh_711 hOK) ?_
  refine g_put (q0 := 8) (t := 0) (fi := 30) rfl rfl ff_X12_366 dX12_readsWord_5 rfl (sh_711 hOK) rfl (fun _ => ⟨rfl, rfl⟩) ?_
  have hOK5 : gOK sh (gU M 711 30 (M 711 19)) := gOK_o hOK (sh_711 hOK) (f := 30) rfl rfl
  refine g_aload_n (q0 := 9) (j := 0) rfl dX12_readsWord_8 rfl ?_
  refine g_iconst (q0 := 10) rfl dX12_readsWord_9 (k := ?_)
  refine g_put (q0 := 13) (t := 0) (fi := 29) rfl rfl ff_X12_369 dX12_readsWord_10 rfl (sh_711 hOK5) rfl (fun _ => ⟨rfl, rfl⟩) ?_
  have hOK6 : gOK sh (gU (gU M 711 30 (M 711 19)) 711 29 0) := gOK_o hOK5 (sh_711 hOK5) (f := 29) rfl rfl
  exact ok_readsWord_13 hOK6 h
-- ==== readsUpTo
theorem dX12_readsUpTo_0 : decode cX12_readsUpTo 0 = .ok (.aload_n 0, 1) := by decide +kernel
theorem dX12_readsUpTo_1 : decode cX12_readsUpTo 1 = .ok (.invokevirtual 265, 3) := by decide +kernel
theorem dX12_readsUpTo_4 : decode cX12_readsUpTo 4 = .ok (.invokestatic 272, 3) := by decide +kernel
theorem dX12_readsUpTo_7 : decode cX12_readsUpTo 7 = .ok (.ifCond .ne 13, 3) := by decide +kernel
theorem dX12_readsUpTo_10 : decode cX12_readsUpTo 10 = .ok (.aload_n 0, 1) := by decide +kernel
theorem dX12_readsUpTo_11 : decode cX12_readsUpTo 11 = .ok (.iconst 1, 1) := by decide +kernel
theorem dX12_readsUpTo_12 : decode cX12_readsUpTo 12 = .ok (.aload_n 0, 1) := by decide +kernel
theorem dX12_readsUpTo_13 : decode cX12_readsUpTo 13 = .ok (.getfield 256, 3) := by decide +kernel
theorem dX12_readsUpTo_16 : decode cX12_readsUpTo 16 = .ok (.invokevirtual 269, 3) := by decide +kernel
theorem dX12_readsUpTo_19 : decode cX12_readsUpTo 19 = .ok (.ireturn, 1) := by decide +kernel
theorem dX12_readsUpTo_20 : decode cX12_readsUpTo 20 = .ok (.aload_n 0, 1) := by decide +kernel
theorem dX12_readsUpTo_21 : decode cX12_readsUpTo 21 = .ok (.invokevirtual 265, 3) := by decide +kernel
theorem dX12_readsUpTo_24 : decode cX12_readsUpTo 24 = .ok (.bipush 48, 2) := by decide +kernel
theorem dX12_readsUpTo_26 : decode cX12_readsUpTo 26 = .ok (.isub, 1) := by decide +kernel
theorem dX12_readsUpTo_27 : decode cX12_readsUpTo 27 = .ok (.iload_n 1, 1) := by decide +kernel
theorem dX12_readsUpTo_28 : decode cX12_readsUpTo 28 = .ok (.iload_n 2, 1) := by decide +kernel
theorem dX12_readsUpTo_29 : decode cX12_readsUpTo 29 = .ok (.invokestatic 182, 3) := by decide +kernel
theorem dX12_readsUpTo_32 : decode cX12_readsUpTo 32 = .ok (.ifCond .ne 13, 3) := by decide +kernel
theorem dX12_readsUpTo_35 : decode cX12_readsUpTo 35 = .ok (.aload_n 0, 1) := by decide +kernel
theorem dX12_readsUpTo_36 : decode cX12_readsUpTo 36 = .ok (.iconst 3, 1) := by decide +kernel
theorem dX12_readsUpTo_37 : decode cX12_readsUpTo 37 = .ok (.aload_n 0, 1) := by decide +kernel
theorem dX12_readsUpTo_38 : decode cX12_readsUpTo 38 = .ok (.getfield 256, 3) := by decide +kernel
theorem dX12_readsUpTo_41 : decode cX12_readsUpTo 41 = .ok (.invokevirtual 269, 3) := by decide +kernel
theorem dX12_readsUpTo_44 : decode cX12_readsUpTo 44 = .ok (.ireturn, 1) := by decide +kernel
theorem dX12_readsUpTo_45 : decode cX12_readsUpTo 45 = .ok (.aload_n 0, 1) := by decide +kernel
theorem dX12_readsUpTo_46 : decode cX12_readsUpTo 46 = .ok (.aload_n 0, 1) := by decide +kernel
theorem dX12_readsUpTo_47 : decode cX12_readsUpTo 47 = .ok (.invokevirtual 265, 3) := by decide +kernel
theorem dX12_readsUpTo_50 : decode cX12_readsUpTo 50 = .ok (.bipush 48, 2) := by decide +kernel
theorem dX12_readsUpTo_52 : decode cX12_readsUpTo 52 = .ok (.isub, 1) := by decide +kernel
theorem dX12_readsUpTo_53 : decode cX12_readsUpTo 53 = .ok (.putfield 275, 3) := by decide +kernel
theorem dX12_readsUpTo_56 : decode cX12_readsUpTo 56 = .ok (.aload_n 0, 1) := by decide +kernel
theorem dX12_readsUpTo_57 : decode cX12_readsUpTo 57 = .ok (.aload_n 0, 1) := by decide +kernel
theorem dX12_readsUpTo_58 : decode cX12_readsUpTo 58 = .ok (.getfield 256, 3) := by decide +kernel
theorem dX12_readsUpTo_61 : decode cX12_readsUpTo 61 = .ok (.iconst 1, 1) := by decide +kernel
theorem dX12_readsUpTo_62 : decode cX12_readsUpTo 62 = .ok (.iadd, 1) := by decide +kernel
theorem dX12_readsUpTo_63 : decode cX12_readsUpTo 63 = .ok (.putfield 256, 3) := by decide +kernel
theorem dX12_readsUpTo_66 : decode cX12_readsUpTo 66 = .ok (.iconst 1, 1) := by decide +kernel
theorem dX12_readsUpTo_67 : decode cX12_readsUpTo 67 = .ok (.ireturn, 1) := by decide +kernel
noncomputable def F_readsUpTo (M : gM) (a1 a2 : Int) : Option (Int × gM) := (Option.bind (F_here M) (fun r1 =>
    (Option.bind (F_isDigit r1) (fun r4 =>
      (if r4 = 0 then
        (Option.bind (F_wrongAt M 1 (M 711 19)) (fun p16 =>
          some (p16.1, p16.2)))
      else
        (Option.bind (F_here M) (fun r21 =>
          (Option.bind (F_in (gw32 (r21 - (48 : Int))) a1 a2) (fun r29 =>
            (if r29 = 0 then
              (Option.bind (F_wrongAt M 3 (M 711 19)) (fun p41 =>
                some (p41.1, p41.2)))
            else
              (Option.bind (F_here M) (fun r47 =>
                some (1, (gU (gU M 711 22 (gw32 (r47 - (48 : Int)))) 711 19 (gw32 (((gU M 711 22 (gw32 (r47 - (48 : Int)))) 711 19) + (1 : Int)))))))))))))))))
theorem eq_readsUpTo (M : gM) (a1 a2 : Int) : F_readsUpTo M a1 a2 = (Option.bind (F_here M) (fun r1 =>
    (Option.bind (F_isDigit r1) (fun r4 =>
      (if r4 = 0 then
        (Option.bind (F_wrongAt M 1 (M 711 19)) (fun p16 =>
          some (p16.1, p16.2)))
      else
        (Option.bind (F_here M) (fun r21 =>
          (Option.bind (F_in (gw32 (r21 - (48 : Int))) a1 a2) (fun r29 =>
            (if r29 = 0 then
              (Option.bind (F_wrongAt M 3 (M 711 19)) (fun p41 =>
                some (p41.1, p41.2)))
            else
              (Option.bind (F_here M) (fun r47 =>
                some (1, (gU (gU M 711 22 (gw32 (r47 - (48 : Int)))) 711 19 (gw32 (((gU M 711 22 (gw32 (r47 - (48 : Int)))) 711 19) + (1 : Int))))))))))))))))) := rfl
theorem fr_readsUpTo {M : gM} {a1 a2 : Int} {b : Int × gM} (h : F_readsUpTo M a1 a2 = some b) : gFr [] [19, 21, 22] M b.2 := by
  rw [eq_readsUpTo] at h
  obtain ⟨r1, e1, h⟩ := gI_bd h
  obtain ⟨r4, e4, h⟩ := gI_bd h
  rcases gI_or h with h | h
  · obtain ⟨p16, e16, h⟩ := gI_bd h
    rw [← Option.some.inj h]
    exact (gFr_t (gFr_r [] [19, 21, 22] _) (fr_wrongAt (b := p16) e16) (by first | decide | simp) (by decide))
  · obtain ⟨r21, e21, h⟩ := gI_bd h
    obtain ⟨r29, e29, h⟩ := gI_bd h
    rcases gI_or h with h | h
    · obtain ⟨p41, e41, h⟩ := gI_bd h
      rw [← Option.some.inj h]
      exact (gFr_t (gFr_r [] [19, 21, 22] _) (fr_wrongAt (b := p41) e41) (by first | decide | simp) (by decide))
    · obtain ⟨r47, e47, h⟩ := gI_bd h
      rw [← Option.some.inj h]
      exact (gFr_f (gFr_f (gFr_r [] [19, 21, 22] _) (.tail _ (.tail _ (.head _)))) (.head _))
theorem bo_readsUpTo {M : gM} {a1 a2 : Int} {b : Int × gM} (h : F_readsUpTo M a1 a2 = some b) : b.1 = 0 ∨ b.1 = 1 := by
  rw [eq_readsUpTo] at h
  obtain ⟨r1, e1, h⟩ := gI_bd h
  obtain ⟨r4, e4, h⟩ := gI_bd h
  rcases gI_or h with h | h
  · obtain ⟨p16, e16, h⟩ := gI_bd h
    rw [← Option.some.inj h]
    exact (bo_wrongAt (b := p16) e16)
  · obtain ⟨r21, e21, h⟩ := gI_bd h
    obtain ⟨r29, e29, h⟩ := gI_bd h
    rcases gI_or h with h | h
    · obtain ⟨p41, e41, h⟩ := gI_bd h
      rw [← Option.some.inj h]
      exact (bo_wrongAt (b := p41) e41)
    · obtain ⟨r47, e47, h⟩ := gI_bd h
      rw [← Option.some.inj h]
      exact (Or.inr rfl)
theorem ok_readsUpTo {sh : gS} {M : gM} {a1 a2 : Int} {b : Int × gM} (hOK : gOK sh M) (h : F_readsUpTo M a1 a2 = some b) : gC (gr 2 42) yX12_readsUpTo cX12_readsUpTo 3 (some (.boolean)) [(4, 711), (0, a1), (0, a2)] sh M (gPq sh (some (0, b.1)) b.2) := by
  rw [eq_readsUpTo] at h
  refine gC_ofA (lv := [_, _, _]) (by decide +kernel) (Nat.le_of_ble_eq_true rfl) rfl (fun hMw hav => ?_)
  refine g_aload_n (q0 := 1) (j := 0) rfl dX12_readsUpTo_0 rfl ?_
  obtain ⟨r1, e1, h⟩ := gI_bd h
  refine g_callVq1 (as := []) (rest := []) mt_X12_here mi_X12_here se_X12_here ml_X12_265 dX12_readsUpTo_1 (q0 := 4) rfl rfl (sh_711 hOK) rfl rfl (ok_here hOK e1) rfl ⟨by decide, by decide⟩ (Nat.le_of_ble_eq_true rfl) ⟨Nat.zero_le _, Nat.zero_le _⟩ ?_
  obtain ⟨r4, e4, h⟩ := gI_bd h
  refine g_callSq1 (as := [_]) (rest := []) mt_X12_isDigit ms_X12_isDigit ml_X12_272 dX12_readsUpTo_4 (q0 := 7) rfl rfl (ok_isDigit hOK e4) rfl ⟨by decide, by decide⟩ (Nat.le_of_ble_eq_true rfl) ⟨Nat.zero_le _, Nat.zero_le _⟩ ?_
  refine g_if_ne (q0 := 10) (tgt := 20) rfl dX12_readsUpTo_7 (by decide) (fun h7 => ?_) (fun h7 => ?_)
  · replace h := gI_neg h7 h
    refine g_aload_n (q0 := 21) (j := 0) rfl dX12_readsUpTo_20 rfl ?_
    obtain ⟨r21, e21, h⟩ := gI_bd h
    refine g_callVq1 (as := []) (rest := []) mt_X12_here mi_X12_here se_X12_here ml_X12_265 dX12_readsUpTo_21 (q0 := 24) rfl rfl (sh_711 hOK) rfl rfl (ok_here hOK e21) rfl ⟨by decide, by decide⟩ (Nat.le_of_ble_eq_true rfl) ⟨Nat.zero_le _, Nat.zero_le _⟩ ?_
    refine g_bipush (q0 := 26) rfl dX12_readsUpTo_24 (k := ?_)
    refine g_isubw (q0 := 27) rfl dX12_readsUpTo_26 ?_
    refine g_iload_n (q0 := 28) (j := 1) rfl dX12_readsUpTo_27 rfl ?_
    refine g_iload_n (q0 := 29) (j := 2) rfl dX12_readsUpTo_28 rfl ?_
    obtain ⟨r29, e29, h⟩ := gI_bd h
    refine g_callSq1 (as := [_, _, _]) (rest := []) mt_X12_in ms_X12_in ml_X12_182 dX12_readsUpTo_29 (q0 := 32) rfl rfl (ok_in hOK e29) rfl ⟨by decide, by decide⟩ (Nat.le_of_ble_eq_true rfl) ⟨Nat.zero_le _, Nat.zero_le _⟩ ?_
    refine g_if_ne (q0 := 35) (tgt := 45) rfl dX12_readsUpTo_32 (by decide) (fun h32 => ?_) (fun h32 => ?_)
    · replace h := gI_neg h32 h
      refine g_aload_n (q0 := 46) (j := 0) rfl dX12_readsUpTo_45 rfl ?_
      refine g_aload_n (q0 := 47) (j := 0) rfl dX12_readsUpTo_46 rfl ?_
      obtain ⟨r47, e47, h⟩ := gI_bd h
      refine g_callVq1 (as := []) (rest := [_]) mt_X12_here mi_X12_here se_X12_here ml_X12_265 dX12_readsUpTo_47 (q0 := 50) rfl rfl (sh_711 hOK) rfl rfl (ok_here hOK e47) rfl ⟨by decide, by decide⟩ (Nat.le_of_ble_eq_true rfl) ⟨Nat.zero_le _, Nat.zero_le _⟩ ?_
      refine g_bipush (q0 := 52) rfl dX12_readsUpTo_50 (k := ?_)
      refine g_isubw (q0 := 53) rfl dX12_readsUpTo_52 ?_
      refine g_put (q0 := 56) (t := 0) (fi := 22) rfl rfl ff_X12_275 dX12_readsUpTo_53 rfl (sh_711 hOK) rfl (fun _ => ⟨rfl, rfl⟩) ?_
      have hOK1 : gOK sh (gU M 711 22 (gw32 (r47 - (48 : Int)))) := gOK_o hOK (sh_711 hOK) (f := 22) rfl rfl
      refine g_aload_n (q0 := 57) (j := 0) rfl dX12_readsUpTo_56 rfl ?_
      refine g_aload_n (q0 := 58) (j := 0) rfl dX12_readsUpTo_57 rfl ?_
      refine g_getf (q0 := 61) (t := 0) (fi := 19) rfl rfl ff_X12_256 dX12_readsUpTo_58 rfl (sh_711 hOK1) ?_
      refine g_iconst (q0 := 62) rfl dX12_readsUpTo_61 (k := ?_)
      refine g_iaddw (q0 := 63) rfl dX12_readsUpTo_62 ?_
      refine g_put (q0 := 66) (t := 0) (fi := 19) rfl rfl ff_X12_256 dX12_readsUpTo_63 rfl (sh_711 hOK1) rfl (fun _ => ⟨rfl, rfl⟩) ?_
      have hOK2 : gOK sh (gU (gU M 711 22 (gw32 (r47 - (48 : Int)))) 711 19 (gw32 (((gU M 711 22 (gw32 (r47 - (48 : Int)))) 711 19) + (1 : Int)))) := gOK_o hOK1 (sh_711 hOK1) (f := 19) rfl rfl
      refine g_iconst (q0 := 67) rfl dX12_readsUpTo_66 (k := ?_)
      rw [← Option.some.inj h]
      refine g_zreturn dX12_readsUpTo_67 rfl (gnz (Or.inr rfl)) ⟨Nat.zero_le _, Nat.zero_le _⟩ ?_
      exact ⟨rfl, rfl, rfl⟩
    · replace h := gI_pos h32 h
      refine g_aload_n (q0 := 36) (j := 0) rfl dX12_readsUpTo_35 rfl ?_
      refine g_iconst (q0 := 37) rfl dX12_readsUpTo_36 (k := ?_)
      refine g_aload_n (q0 := 38) (j := 0) rfl dX12_readsUpTo_37 rfl ?_
      refine g_getf (q0 := 41) (t := 0) (fi := 19) rfl rfl ff_X12_256 dX12_readsUpTo_38 rfl (sh_711 hOK) ?_
      obtain ⟨p41, e41, h⟩ := gI_bd h
      refine g_callVq1 (as := [_, _]) (rest := []) mt_X12_wrongAt mi_X12_wrongAt se_X12_wrongAt ml_X12_269 dX12_readsUpTo_41 (q0 := 44) rfl rfl (sh_711 hOK) rfl rfl (ok_wrongAt hOK e41) rfl ⟨by decide, by decide⟩ (Nat.le_of_ble_eq_true rfl) ⟨Nat.zero_le _, Nat.zero_le _⟩ ?_
      have hOK3 : gOK sh p41.2 := gOK_fr hOK (fr_wrongAt (b := p41) e41) (by first | decide | (intro a ha; simp only [List.mem_cons, List.not_mem_nil, or_false] at ha; omega)) (by decide)
      rw [← Option.some.inj h]
      refine g_zreturn dX12_readsUpTo_44 rfl (gnz (bo_wrongAt (b := p41) e41)) ⟨Nat.zero_le _, Nat.zero_le _⟩ ?_
      exact ⟨rfl, rfl, rfl⟩
  · replace h := gI_pos h7 h
    refine g_aload_n (q0 := 11) (j := 0) rfl dX12_readsUpTo_10 rfl ?_
    refine g_iconst (q0 := 12) rfl dX12_readsUpTo_11 (k := ?_)
    refine g_aload_n (q0 := 13) (j := 0) rfl dX12_readsUpTo_12 rfl ?_
    refine g_getf (q0 := 16) (t := 0) (fi := 19) rfl rfl ff_X12_256 dX12_readsUpTo_13 rfl (sh_711 hOK) ?_
    obtain ⟨p16, e16, h⟩ := gI_bd h
    refine g_callVq1 (as := [_, _]) (rest := []) mt_X12_wrongAt mi_X12_wrongAt se_X12_wrongAt ml_X12_269 dX12_readsUpTo_16 (q0 := 19) rfl rfl (sh_711 hOK) rfl rfl (ok_wrongAt hOK e16) rfl ⟨by decide, by decide⟩ (Nat.le_of_ble_eq_true rfl) ⟨Nat.zero_le _, Nat.zero_le _⟩ ?_
    have hOK4 : gOK sh p16.2 := gOK_fr hOK (fr_wrongAt (b := p16) e16) (by first | decide | (intro a ha; simp only [List.mem_cons, List.not_mem_nil, or_false] at ha; omega)) (by decide)
    rw [← Option.some.inj h]
    refine g_zreturn dX12_readsUpTo_19 rfl (gnz (bo_wrongAt (b := p16) e16)) ⟨Nat.zero_le _, Nat.zero_le _⟩ ?_
    exact ⟨rfl, rfl, rfl⟩
-- ==== readsPlace
theorem dX12_readsPlace_0 : decode cX12_readsPlace 0 = .ok (.aload_n 0, 1) := by decide +kernel
theorem dX12_readsPlace_1 : decode cX12_readsPlace 1 = .ok (.iconst 0, 1) := by decide +kernel
theorem dX12_readsPlace_2 : decode cX12_readsPlace 2 = .ok (.putfield 278, 3) := by decide +kernel
theorem dX12_readsPlace_5 : decode cX12_readsPlace 5 = .ok (.aload_n 0, 1) := by decide +kernel
theorem dX12_readsPlace_6 : decode cX12_readsPlace 6 = .ok (.invokevirtual 265, 3) := by decide +kernel
theorem dX12_readsPlace_9 : decode cX12_readsPlace 9 = .ok (.bipush 46, 2) := by decide +kernel
theorem dX12_readsPlace_11 : decode cX12_readsPlace 11 = .ok (.if_icmp .eq 9, 3) := by decide +kernel
theorem dX12_readsPlace_14 : decode cX12_readsPlace 14 = .ok (.aload_n 0, 1) := by decide +kernel
theorem dX12_readsPlace_15 : decode cX12_readsPlace 15 = .ok (.iconst 4, 1) := by decide +kernel
theorem dX12_readsPlace_16 : decode cX12_readsPlace 16 = .ok (.invokevirtual 294, 3) := by decide +kernel
theorem dX12_readsPlace_19 : decode cX12_readsPlace 19 = .ok (.ireturn, 1) := by decide +kernel
theorem dX12_readsPlace_20 : decode cX12_readsPlace 20 = .ok (.aload_n 0, 1) := by decide +kernel
theorem dX12_readsPlace_21 : decode cX12_readsPlace 21 = .ok (.aload_n 0, 1) := by decide +kernel
theorem dX12_readsPlace_22 : decode cX12_readsPlace 22 = .ok (.getfield 256, 3) := by decide +kernel
theorem dX12_readsPlace_25 : decode cX12_readsPlace 25 = .ok (.iconst 1, 1) := by decide +kernel
theorem dX12_readsPlace_26 : decode cX12_readsPlace 26 = .ok (.iadd, 1) := by decide +kernel
theorem dX12_readsPlace_27 : decode cX12_readsPlace 27 = .ok (.putfield 256, 3) := by decide +kernel
theorem dX12_readsPlace_30 : decode cX12_readsPlace 30 = .ok (.iconst 1, 1) := by decide +kernel
theorem dX12_readsPlace_31 : decode cX12_readsPlace 31 = .ok (.ireturn, 1) := by decide +kernel
noncomputable def F_readsPlace (M : gM) : Option (Int × gM) := (Option.bind (F_here (gU M 711 23 0)) (fun r6 =>
    (if r6 = 46 then
      some (1, (gU (gU M 711 23 0) 711 19 (gw32 (((gU M 711 23 0) 711 19) + (1 : Int)))))
    else
      (Option.bind (F_readsPath (gU M 711 23 0) 4) (fun p16 =>
        some (p16.1, p16.2))))))
theorem eq_readsPlace (M : gM) : F_readsPlace M = (Option.bind (F_here (gU M 711 23 0)) (fun r6 =>
    (if r6 = 46 then
      some (1, (gU (gU M 711 23 0) 711 19 (gw32 (((gU M 711 23 0) 711 19) + (1 : Int)))))
    else
      (Option.bind (F_readsPath (gU M 711 23 0) 4) (fun p16 =>
        some (p16.1, p16.2)))))) := rfl
theorem fr_readsPlace {M : gM} {b : Int × gM} (h : F_readsPlace M = some b) : gFr [] [19, 21, 23] M b.2 := by
  rw [eq_readsPlace] at h
  obtain ⟨r6, e6, h⟩ := gI_bd h
  rcases gI_or h with h | h
  · rw [← Option.some.inj h]
    exact (gFr_f (gFr_f (gFr_r [] [19, 21, 23] _) (.tail _ (.tail _ (.head _)))) (.head _))
  · obtain ⟨p16, e16, h⟩ := gI_bd h
    rw [← Option.some.inj h]
    exact (gFr_t (gFr_f (gFr_r [] [19, 21, 23] _) (.tail _ (.tail _ (.head _)))) (fr_readsPath (b := p16) e16) (by first | decide | simp) (by decide))
theorem bo_readsPlace {M : gM} {b : Int × gM} (h : F_readsPlace M = some b) : b.1 = 0 ∨ b.1 = 1 := by
  rw [eq_readsPlace] at h
  obtain ⟨r6, e6, h⟩ := gI_bd h
  rcases gI_or h with h | h
  · rw [← Option.some.inj h]
    exact (Or.inr rfl)
  · obtain ⟨p16, e16, h⟩ := gI_bd h
    rw [← Option.some.inj h]
    exact (bo_readsPath (b := p16) e16)
theorem ok_readsPlace {sh : gS} {M : gM} {b : Int × gM} (hOK : gOK sh M) (h : F_readsPlace M = some b) : gC (gr 3 64) yX12_readsPlace cX12_readsPlace 1 (some (.boolean)) [(4, 711)] sh M (gPq sh (some (0, b.1)) b.2) := by
  rw [eq_readsPlace] at h
  refine gC_ofA (lv := [_]) (by decide +kernel) (Nat.le_of_ble_eq_true rfl) rfl (fun hMw hav => ?_)
  refine g_aload_n (q0 := 1) (j := 0) rfl dX12_readsPlace_0 rfl ?_
  refine g_iconst (q0 := 2) rfl dX12_readsPlace_1 (k := ?_)
  refine g_put (q0 := 5) (t := 0) (fi := 23) rfl rfl ff_X12_278 dX12_readsPlace_2 rfl (sh_711 hOK) rfl (fun _ => ⟨rfl, rfl⟩) ?_
  have hOK1 : gOK sh (gU M 711 23 0) := gOK_o hOK (sh_711 hOK) (f := 23) rfl rfl
  refine g_aload_n (q0 := 6) (j := 0) rfl dX12_readsPlace_5 rfl ?_
  obtain ⟨r6, e6, h⟩ := gI_bd h
  refine g_callVq1 (as := []) (rest := []) mt_X12_here mi_X12_here se_X12_here ml_X12_265 dX12_readsPlace_6 (q0 := 9) rfl rfl (sh_711 hOK1) rfl rfl (ok_here hOK1 e6) rfl ⟨by decide, by decide⟩ (Nat.le_of_ble_eq_true rfl) ⟨Nat.zero_le _, Nat.zero_le _⟩ ?_
  refine g_bipush (q0 := 11) rfl dX12_readsPlace_9 (k := ?_)
  refine g_icmp_eq (q0 := 14) (tgt := 20) rfl dX12_readsPlace_11 (by decide) (fun h11 => ?_) (fun h11 => ?_)
  · replace h := gI_pos h11 h
    refine g_aload_n (q0 := 21) (j := 0) rfl dX12_readsPlace_20 rfl ?_
    refine g_aload_n (q0 := 22) (j := 0) rfl dX12_readsPlace_21 rfl ?_
    refine g_getf (q0 := 25) (t := 0) (fi := 19) rfl rfl ff_X12_256 dX12_readsPlace_22 rfl (sh_711 hOK1) ?_
    refine g_iconst (q0 := 26) rfl dX12_readsPlace_25 (k := ?_)
    refine g_iaddw (q0 := 27) rfl dX12_readsPlace_26 ?_
    refine g_put (q0 := 30) (t := 0) (fi := 19) rfl rfl ff_X12_256 dX12_readsPlace_27 rfl (sh_711 hOK1) rfl (fun _ => ⟨rfl, rfl⟩) ?_
    have hOK2 : gOK sh (gU (gU M 711 23 0) 711 19 (gw32 (((gU M 711 23 0) 711 19) + (1 : Int)))) := gOK_o hOK1 (sh_711 hOK1) (f := 19) rfl rfl
    refine g_iconst (q0 := 31) rfl dX12_readsPlace_30 (k := ?_)
    rw [← Option.some.inj h]
    refine g_zreturn dX12_readsPlace_31 rfl (gnz (Or.inr rfl)) ⟨Nat.zero_le _, Nat.zero_le _⟩ ?_
    exact ⟨rfl, rfl, rfl⟩
  · replace h := gI_neg h11 h
    refine g_aload_n (q0 := 15) (j := 0) rfl dX12_readsPlace_14 rfl ?_
    refine g_iconst (q0 := 16) rfl dX12_readsPlace_15 (k := ?_)
    obtain ⟨p16, e16, h⟩ := gI_bd h
    refine g_callVq1 (as := [_]) (rest := []) mt_X12_readsPath mi_X12_readsPath se_X12_readsPath ml_X12_294 dX12_readsPlace_16 (q0 := 19) rfl rfl (sh_711 hOK1) rfl rfl (ok_readsPath hOK1 e16) rfl ⟨by decide, by decide⟩ (Nat.le_of_ble_eq_true rfl) ⟨Nat.zero_le _, Nat.zero_le _⟩ ?_
    have hOK3 : gOK sh p16.2 := gOK_fr hOK1 (fr_readsPath (b := p16) e16) (by first | decide | (intro a ha; simp only [List.mem_cons, List.not_mem_nil, or_false] at ha; omega)) (by decide)
    rw [← Option.some.inj h]
    refine g_zreturn dX12_readsPlace_19 rfl (gnz (bo_readsPath (b := p16) e16)) ⟨Nat.zero_le _, Nat.zero_le _⟩ ?_
    exact ⟨rfl, rfl, rfl⟩
-- ==== readsLetters
theorem dX12_readsLetters_0 : decode cX12_readsLetters 0 = .ok (.aload_n 0, 1) := by decide +kernel
theorem dX12_readsLetters_1 : decode cX12_readsLetters 1 = .ok (.getfield 256, 3) := by decide +kernel
theorem dX12_readsLetters_4 : decode cX12_readsLetters 4 = .ok (.istore_n 1, 1) := by decide +kernel
theorem dX12_readsLetters_5 : decode cX12_readsLetters 5 = .ok (.aload_n 0, 1) := by decide +kernel
theorem dX12_readsLetters_6 : decode cX12_readsLetters 6 = .ok (.invokevirtual 265, 3) := by decide +kernel
theorem dX12_readsLetters_9 : decode cX12_readsLetters 9 = .ok (.invokestatic 281, 3) := by decide +kernel
theorem dX12_readsLetters_12 : decode cX12_readsLetters 12 = .ok (.ifCond .ne 13, 3) := by decide +kernel
theorem dX12_readsLetters_15 : decode cX12_readsLetters 15 = .ok (.aload_n 0, 1) := by decide +kernel
theorem dX12_readsLetters_16 : decode cX12_readsLetters 16 = .ok (.iconst 1, 1) := by decide +kernel
theorem dX12_readsLetters_17 : decode cX12_readsLetters 17 = .ok (.aload_n 0, 1) := by decide +kernel
theorem dX12_readsLetters_18 : decode cX12_readsLetters 18 = .ok (.getfield 256, 3) := by decide +kernel
theorem dX12_readsLetters_21 : decode cX12_readsLetters 21 = .ok (.invokevirtual 269, 3) := by decide +kernel
theorem dX12_readsLetters_24 : decode cX12_readsLetters 24 = .ok (.ireturn, 1) := by decide +kernel
theorem dX12_readsLetters_25 : decode cX12_readsLetters 25 = .ok (.aload_n 0, 1) := by decide +kernel
theorem dX12_readsLetters_26 : decode cX12_readsLetters 26 = .ok (.iconst 0, 1) := by decide +kernel
theorem dX12_readsLetters_27 : decode cX12_readsLetters 27 = .ok (.putfield 275, 3) := by decide +kernel
theorem dX12_readsLetters_30 : decode cX12_readsLetters 30 = .ok (.aload_n 0, 1) := by decide +kernel
theorem dX12_readsLetters_31 : decode cX12_readsLetters 31 = .ok (.invokevirtual 265, 3) := by decide +kernel
theorem dX12_readsLetters_34 : decode cX12_readsLetters 34 = .ok (.invokestatic 281, 3) := by decide +kernel
theorem dX12_readsLetters_37 : decode cX12_readsLetters 37 = .ok (.ifCond .eq 57, 3) := by decide +kernel
theorem dX12_readsLetters_40 : decode cX12_readsLetters 40 = .ok (.aload_n 0, 1) := by decide +kernel
theorem dX12_readsLetters_41 : decode cX12_readsLetters 41 = .ok (.getfield 256, 3) := by decide +kernel
theorem dX12_readsLetters_44 : decode cX12_readsLetters 44 = .ok (.iload_n 1, 1) := by decide +kernel
theorem dX12_readsLetters_45 : decode cX12_readsLetters 45 = .ok (.iconst 4, 1) := by decide +kernel
theorem dX12_readsLetters_46 : decode cX12_readsLetters 46 = .ok (.iadd, 1) := by decide +kernel
theorem dX12_readsLetters_47 : decode cX12_readsLetters 47 = .ok (.if_icmp .ne 13, 3) := by decide +kernel
theorem dX12_readsLetters_50 : decode cX12_readsLetters 50 = .ok (.aload_n 0, 1) := by decide +kernel
theorem dX12_readsLetters_51 : decode cX12_readsLetters 51 = .ok (.iconst 2, 1) := by decide +kernel
theorem dX12_readsLetters_52 : decode cX12_readsLetters 52 = .ok (.aload_n 0, 1) := by decide +kernel
theorem dX12_readsLetters_53 : decode cX12_readsLetters 53 = .ok (.getfield 256, 3) := by decide +kernel
theorem dX12_readsLetters_56 : decode cX12_readsLetters 56 = .ok (.invokevirtual 269, 3) := by decide +kernel
theorem dX12_readsLetters_59 : decode cX12_readsLetters 59 = .ok (.ireturn, 1) := by decide +kernel
theorem dX12_readsLetters_60 : decode cX12_readsLetters 60 = .ok (.aload_n 0, 1) := by decide +kernel
theorem dX12_readsLetters_61 : decode cX12_readsLetters 61 = .ok (.bipush 32, 2) := by decide +kernel
theorem dX12_readsLetters_63 : decode cX12_readsLetters 63 = .ok (.aload_n 0, 1) := by decide +kernel
theorem dX12_readsLetters_64 : decode cX12_readsLetters 64 = .ok (.getfield 275, 3) := by decide +kernel
theorem dX12_readsLetters_67 : decode cX12_readsLetters 67 = .ok (.imul, 1) := by decide +kernel
theorem dX12_readsLetters_68 : decode cX12_readsLetters 68 = .ok (.aload_n 0, 1) := by decide +kernel
theorem dX12_readsLetters_69 : decode cX12_readsLetters 69 = .ok (.invokevirtual 265, 3) := by decide +kernel
theorem dX12_readsLetters_72 : decode cX12_readsLetters 72 = .ok (.iadd, 1) := by decide +kernel
theorem dX12_readsLetters_73 : decode cX12_readsLetters 73 = .ok (.bipush 97, 2) := by decide +kernel
theorem dX12_readsLetters_75 : decode cX12_readsLetters 75 = .ok (.isub, 1) := by decide +kernel
theorem dX12_readsLetters_76 : decode cX12_readsLetters 76 = .ok (.iconst 1, 1) := by decide +kernel
theorem dX12_readsLetters_77 : decode cX12_readsLetters 77 = .ok (.iadd, 1) := by decide +kernel
theorem dX12_readsLetters_78 : decode cX12_readsLetters 78 = .ok (.putfield 275, 3) := by decide +kernel
theorem dX12_readsLetters_81 : decode cX12_readsLetters 81 = .ok (.aload_n 0, 1) := by decide +kernel
theorem dX12_readsLetters_82 : decode cX12_readsLetters 82 = .ok (.aload_n 0, 1) := by decide +kernel
theorem dX12_readsLetters_83 : decode cX12_readsLetters 83 = .ok (.getfield 256, 3) := by decide +kernel
theorem dX12_readsLetters_86 : decode cX12_readsLetters 86 = .ok (.iconst 1, 1) := by decide +kernel
theorem dX12_readsLetters_87 : decode cX12_readsLetters 87 = .ok (.iadd, 1) := by decide +kernel
theorem dX12_readsLetters_88 : decode cX12_readsLetters 88 = .ok (.putfield 256, 3) := by decide +kernel
theorem dX12_readsLetters_91 : decode cX12_readsLetters 91 = .ok (.goto (-61), 3) := by decide +kernel
theorem dX12_readsLetters_94 : decode cX12_readsLetters 94 = .ok (.iconst 1, 1) := by decide +kernel
theorem dX12_readsLetters_95 : decode cX12_readsLetters 95 = .ok (.ireturn, 1) := by decide +kernel
noncomputable def st_readsLetters : Nat × List Int × gM → Option ((Nat × List Int × gM) ⊕ (Int × gM))
  | (0, [x1], M) => (Option.bind (F_here M) (fun r31 =>
      (Option.bind (F_isSmall r31) (fun r34 =>
        (if r34 = 0 then
          some (.inr (1, M))
        else
          (if (M 711 19) = (gw32 (x1 + (4 : Int))) then
            (Option.bind (F_wrongAt M 2 (M 711 19)) (fun p56 =>
              some (.inr (p56.1, p56.2))))
          else
            (Option.bind (F_here M) (fun r69 =>
              some (.inl (0, [x1], (gU (gU M 711 22 (gw32 ((gw32 ((gw32 ((gw32 ((32 : Int) * (M 711 22))) + r69)) - (97 : Int))) + (1 : Int)))) 711 19 (gw32 (((gU M 711 22 (gw32 ((gw32 ((gw32 ((gw32 ((32 : Int) * (M 711 22))) + r69)) - (97 : Int))) + (1 : Int)))) 711 19) + (1 : Int))))))))))))))
  | _ => none
theorem sk_readsLetters_30 (k : Nat × List Int × gM → Option (Int × gM)) (M : gM) (x1 : Int) : gWk k (st_readsLetters (0, [x1], M)) = (Option.bind (F_here M) (fun r31 =>
    (Option.bind (F_isSmall r31) (fun r34 =>
      (if r34 = 0 then
        some (1, M)
      else
        (if (M 711 19) = (gw32 (x1 + (4 : Int))) then
          (Option.bind (F_wrongAt M 2 (M 711 19)) (fun p56 =>
            some (p56.1, p56.2)))
        else
          (Option.bind (F_here M) (fun r69 =>
            k (0, [x1], (gU (gU M 711 22 (gw32 ((gw32 ((gw32 ((gw32 ((32 : Int) * (M 711 22))) + r69)) - (97 : Int))) + (1 : Int)))) 711 19 (gw32 (((gU M 711 22 (gw32 ((gw32 ((gw32 ((gw32 ((32 : Int) * (M 711 22))) + r69)) - (97 : Int))) + (1 : Int)))) 711 19) + (1 : Int))))))))))))) := by
  simp only [st_readsLetters, gWk_ite, gWk_bind, gWk_inl, gWk_inr, gWk_none]
noncomputable def F_readsLetters_30 (M : gM) (x1 : Int) : Option (Int × gM) := gWh (st_readsLetters) (0, [x1], M)
theorem eq_readsLetters_30 (M : gM) (x1 : Int) : F_readsLetters_30 M x1 = (Option.bind (F_here M) (fun r31 =>
    (Option.bind (F_isSmall r31) (fun r34 =>
      (if r34 = 0 then
        some (1, M)
      else
        (if (M 711 19) = (gw32 (x1 + (4 : Int))) then
          (Option.bind (F_wrongAt M 2 (M 711 19)) (fun p56 =>
            some (p56.1, p56.2)))
        else
          (Option.bind (F_here M) (fun r69 =>
            F_readsLetters_30 (gU (gU M 711 22 (gw32 ((gw32 ((gw32 ((gw32 ((32 : Int) * (M 711 22))) + r69)) - (97 : Int))) + (1 : Int)))) 711 19 (gw32 (((gU M 711 22 (gw32 ((gw32 ((gw32 ((gw32 ((32 : Int) * (M 711 22))) + r69)) - (97 : Int))) + (1 : Int)))) 711 19) + (1 : Int)))) x1)))))))) := (gWh_eq _).trans (sk_readsLetters_30 _ M x1)
noncomputable def F_readsLetters (M : gM) : Option (Int × gM) := (Option.bind (F_here M) (fun r6 =>
    (Option.bind (F_isSmall r6) (fun r9 =>
      (if r9 = 0 then
        (Option.bind (F_wrongAt M 1 (M 711 19)) (fun p21 =>
          some (p21.1, p21.2)))
      else
        F_readsLetters_30 (gU M 711 22 0) (M 711 19))))))
theorem eq_readsLetters (M : gM) : F_readsLetters M = (Option.bind (F_here M) (fun r6 =>
    (Option.bind (F_isSmall r6) (fun r9 =>
      (if r9 = 0 then
        (Option.bind (F_wrongAt M 1 (M 711 19)) (fun p21 =>
          some (p21.1, p21.2)))
      else
        F_readsLetters_30 (gU M 711 22 0) (M 711 19)))))) := rfl
theorem frp_readsLetters : ∀ (s : Nat × List Int × gM) (b : Int × gM), gWh (st_readsLetters) s = some b → (∀ (x1 : Int) (M : gM), s = (0, [x1], M) → gFr [] [19, 21, 22] M b.2) := by
  refine gWh_ind (fun k hk s b h => ?_)
  · rintro x1 M rfl
    rw [sk_readsLetters_30] at h
    obtain ⟨r31, e31, h⟩ := gI_bd h
    obtain ⟨r34, e34, h⟩ := gI_bd h
    rcases gI_or h with h | h
    · rw [← Option.some.inj h]
      exact (gFr_r [] [19, 21, 22] _)
    · rcases gI_or h with h | h
      · obtain ⟨p56, e56, h⟩ := gI_bd h
        rw [← Option.some.inj h]
        exact (gFr_t (gFr_r [] [19, 21, 22] _) (fr_wrongAt (b := p56) e56) (by first | decide | simp) (by decide))
      · obtain ⟨r69, e69, h⟩ := gI_bd h
        exact gFr_t (gFr_f (gFr_f (gFr_r [] [19, 21, 22] _) (.tail _ (.tail _ (.head _)))) (.head _)) ((hk _ _ h) _ _ rfl) (fun _ z => z) (fun _ z => z)
theorem fr_readsLetters_30 {M : gM} {x1 : Int} {b : Int × gM} (h : F_readsLetters_30 M x1 = some b) : gFr [] [19, 21, 22] M b.2 :=
  (frp_readsLetters _ _ h) _ _ rfl
theorem fr_readsLetters {M : gM} {b : Int × gM} (h : F_readsLetters M = some b) : gFr [] [19, 21, 22] M b.2 := by
  rw [eq_readsLetters] at h
  obtain ⟨r6, e6, h⟩ := gI_bd h
  obtain ⟨r9, e9, h⟩ := gI_bd h
  rcases gI_or h with h | h
  · obtain ⟨p21, e21, h⟩ := gI_bd h
    rw [← Option.some.inj h]
    exact (gFr_t (gFr_r [] [19, 21, 22] _) (fr_wrongAt (b := p21) e21) (by first | decide | simp) (by decide))
  · exact gFr_t (gFr_f (gFr_r [] [19, 21, 22] _) (.tail _ (.tail _ (.head _)))) (fr_readsLetters_30 h) (fun _ z => z) (fun _ z => z)
theorem bop_readsLetters : ∀ (s : Nat × List Int × gM) (b : Int × gM), gWh (st_readsLetters) s = some b → (∀ (x1 : Int) (M : gM), s = (0, [x1], M) → b.1 = 0 ∨ b.1 = 1) := by
  refine gWh_ind (fun k hk s b h => ?_)
  · rintro x1 M rfl
    rw [sk_readsLetters_30] at h
    obtain ⟨r31, e31, h⟩ := gI_bd h
    obtain ⟨r34, e34, h⟩ := gI_bd h
    rcases gI_or h with h | h
    · rw [← Option.some.inj h]
      exact (Or.inr rfl)
    · rcases gI_or h with h | h
      · obtain ⟨p56, e56, h⟩ := gI_bd h
        rw [← Option.some.inj h]
        exact (bo_wrongAt (b := p56) e56)
      · obtain ⟨r69, e69, h⟩ := gI_bd h
        exact (hk _ _ h) _ _ rfl
theorem bo_readsLetters_30 {M : gM} {x1 : Int} {b : Int × gM} (h : F_readsLetters_30 M x1 = some b) : b.1 = 0 ∨ b.1 = 1 :=
  (bop_readsLetters _ _ h) _ _ rfl
theorem bo_readsLetters {M : gM} {b : Int × gM} (h : F_readsLetters M = some b) : b.1 = 0 ∨ b.1 = 1 := by
  rw [eq_readsLetters] at h
  obtain ⟨r6, e6, h⟩ := gI_bd h
  obtain ⟨r9, e9, h⟩ := gI_bd h
  rcases gI_or h with h | h
  · obtain ⟨p21, e21, h⟩ := gI_bd h
    rw [← Option.some.inj h]
    exact (bo_wrongAt (b := p21) e21)
  · exact bo_readsLetters_30 h
theorem okp_readsLetters {sh : gS} : ∀ (s : Nat × List Int × gM) (b : Int × gM), gWh (st_readsLetters) s = some b → (∀ (x1 : Int) (M : gM), s = (0, [x1], M) → gOK sh M → gA (gr 2 42) yX12_readsLetters cX12_readsLetters 2 (some (.boolean)) (gPq sh (some (0, b.1)) b.2) (0, 0) 30 [(4, 711), (0, x1)] [] sh M) := by
  refine gWh_ind (fun k hk s b h => ?_)
  · rintro x1 M rfl hOK
    rw [sk_readsLetters_30] at h
    refine g_aload_n (q0 := 31) (j := 0) rfl dX12_readsLetters_30 rfl ?_
    obtain ⟨r31, e31, h⟩ := gI_bd h
    refine g_callVq1 (as := []) (rest := []) mt_X12_here mi_X12_here se_X12_here ml_X12_265 dX12_readsLetters_31 (q0 := 34) rfl rfl (sh_711 hOK) rfl rfl (ok_here hOK e31) rfl ⟨by decide, by decide⟩ (Nat.le_of_ble_eq_true rfl) ⟨Nat.zero_le _, Nat.zero_le _⟩ ?_
    obtain ⟨r34, e34, h⟩ := gI_bd h
    refine g_callSq1 (as := [_]) (rest := []) mt_X12_isSmall ms_X12_isSmall ml_X12_281 dX12_readsLetters_34 (q0 := 37) rfl rfl (ok_isSmall hOK e34) rfl ⟨by decide, by decide⟩ (Nat.le_of_ble_eq_true rfl) ⟨Nat.zero_le _, Nat.zero_le _⟩ ?_
    refine g_if_eq (q0 := 40) (tgt := 94) rfl dX12_readsLetters_37 (by decide) (fun h37 => ?_) (fun h37 => ?_)
    · replace h := gI_pos h37 h
      refine g_iconst (q0 := 95) rfl dX12_readsLetters_94 (k := ?_)
      rw [← Option.some.inj h]
      refine g_zreturn dX12_readsLetters_95 rfl (gnz (Or.inr rfl)) ⟨Nat.zero_le _, Nat.zero_le _⟩ ?_
      exact ⟨rfl, rfl, rfl⟩
    · replace h := gI_neg h37 h
      refine g_aload_n (q0 := 41) (j := 0) rfl dX12_readsLetters_40 rfl ?_
      refine g_getf (q0 := 44) (t := 0) (fi := 19) rfl rfl ff_X12_256 dX12_readsLetters_41 rfl (sh_711 hOK) ?_
      refine g_iload_n (q0 := 45) (j := 1) rfl dX12_readsLetters_44 rfl ?_
      refine g_iconst (q0 := 46) rfl dX12_readsLetters_45 (k := ?_)
      refine g_iaddw (q0 := 47) rfl dX12_readsLetters_46 ?_
      refine g_icmp_ne (q0 := 50) (tgt := 60) rfl dX12_readsLetters_47 (by decide) (fun h47 => ?_) (fun h47 => ?_)
      · replace h := gI_neg h47 h
        refine g_aload_n (q0 := 61) (j := 0) rfl dX12_readsLetters_60 rfl ?_
        refine g_bipush (q0 := 63) rfl dX12_readsLetters_61 (k := ?_)
        refine g_aload_n (q0 := 64) (j := 0) rfl dX12_readsLetters_63 rfl ?_
        refine g_getf (q0 := 67) (t := 0) (fi := 22) rfl rfl ff_X12_275 dX12_readsLetters_64 rfl (sh_711 hOK) ?_
        refine g_imulw (q0 := 68) rfl dX12_readsLetters_67 ?_
        refine g_aload_n (q0 := 69) (j := 0) rfl dX12_readsLetters_68 rfl ?_
        obtain ⟨r69, e69, h⟩ := gI_bd h
        refine g_callVq1 (as := []) (rest := [_, _]) mt_X12_here mi_X12_here se_X12_here ml_X12_265 dX12_readsLetters_69 (q0 := 72) rfl rfl (sh_711 hOK) rfl rfl (ok_here hOK e69) rfl ⟨by decide, by decide⟩ (Nat.le_of_ble_eq_true rfl) ⟨Nat.zero_le _, Nat.zero_le _⟩ ?_
        refine g_iaddw (q0 := 73) rfl dX12_readsLetters_72 ?_
        refine g_bipush (q0 := 75) rfl dX12_readsLetters_73 (k := ?_)
        refine g_isubw (q0 := 76) rfl dX12_readsLetters_75 ?_
        refine g_iconst (q0 := 77) rfl dX12_readsLetters_76 (k := ?_)
        refine g_iaddw (q0 := 78) rfl dX12_readsLetters_77 ?_
        refine g_put (q0 := 81) (t := 0) (fi := 22) rfl rfl ff_X12_275 dX12_readsLetters_78 rfl (sh_711 hOK) rfl (fun _ => ⟨rfl, rfl⟩) ?_
        have hOK1 : gOK sh (gU M 711 22 (gw32 ((gw32 ((gw32 ((gw32 ((32 : Int) * (M 711 22))) + r69)) - (97 : Int))) + (1 : Int)))) := gOK_o hOK (sh_711 hOK) (f := 22) rfl rfl
        refine g_aload_n (q0 := 82) (j := 0) rfl dX12_readsLetters_81 rfl ?_
        refine g_aload_n (q0 := 83) (j := 0) rfl dX12_readsLetters_82 rfl ?_
        refine g_getf (q0 := 86) (t := 0) (fi := 19) rfl rfl ff_X12_256 dX12_readsLetters_83 rfl (sh_711 hOK1) ?_
        refine g_iconst (q0 := 87) rfl dX12_readsLetters_86 (k := ?_)
        refine g_iaddw (q0 := 88) rfl dX12_readsLetters_87 ?_
        refine g_put (q0 := 91) (t := 0) (fi := 19) rfl rfl ff_X12_256 dX12_readsLetters_88 rfl (sh_711 hOK1) rfl (fun _ => ⟨rfl, rfl⟩) ?_
        have hOK2 : gOK sh (gU (gU M 711 22 (gw32 ((gw32 ((gw32 ((gw32 ((32 : Int) * (M 711 22))) + r69)) - (97 : Int))) + (1 : Int)))) 711 19 (gw32 (((gU M 711 22 (gw32 ((gw32 ((gw32 ((gw32 ((32 : Int) * (M 711 22))) + r69)) - (97 : Int))) + (1 : Int)))) 711 19) + (1 : Int)))) := gOK_o hOK1 (sh_711 hOK1) (f := 19) rfl rfl
        refine g_goto (tgt := 30) dX12_readsLetters_91 (by decide) ?_
        exact (hk _ _ h) _ _ rfl hOK2
      · replace h := gI_pos h47 h
        refine g_aload_n (q0 := 51) (j := 0) rfl dX12_readsLetters_50 rfl ?_
        refine g_iconst (q0 := 52) rfl dX12_readsLetters_51 (k := ?_)
        refine g_aload_n (q0 := 53) (j := 0) rfl dX12_readsLetters_52 rfl ?_
        refine g_getf (q0 := 56) (t := 0) (fi := 19) rfl rfl ff_X12_256 dX12_readsLetters_53 rfl (sh_711 hOK) ?_
        obtain ⟨p56, e56, h⟩ := gI_bd h
        refine g_callVq1 (as := [_, _]) (rest := []) mt_X12_wrongAt mi_X12_wrongAt se_X12_wrongAt ml_X12_269 dX12_readsLetters_56 (q0 := 59) rfl rfl (sh_711 hOK) rfl rfl (ok_wrongAt hOK e56) rfl ⟨by decide, by decide⟩ (Nat.le_of_ble_eq_true rfl) ⟨Nat.zero_le _, Nat.zero_le _⟩ ?_
        have hOK3 : gOK sh p56.2 := gOK_fr hOK (fr_wrongAt (b := p56) e56) (by first | decide | (intro a ha; simp only [List.mem_cons, List.not_mem_nil, or_false] at ha; omega)) (by decide)
        rw [← Option.some.inj h]
        refine g_zreturn dX12_readsLetters_59 rfl (gnz (bo_wrongAt (b := p56) e56)) ⟨Nat.zero_le _, Nat.zero_le _⟩ ?_
        exact ⟨rfl, rfl, rfl⟩
theorem ok_readsLetters_30 {sh : gS} {M : gM} {x1 : Int} {b : Int × gM} (hOK : gOK sh M) (h : F_readsLetters_30 M x1 = some b) : gA (gr 2 42) yX12_readsLetters cX12_readsLetters 2 (some (.boolean)) (gPq sh (some (0, b.1)) b.2) (0, 0) 30 [(4, 711), (0, x1)] [] sh M :=
  (okp_readsLetters _ _ h) _ _ rfl hOK
theorem ok_readsLetters {sh : gS} {M : gM} {b : Int × gM} (hOK : gOK sh M) (h : F_readsLetters M = some b) : gC (gr 2 42) yX12_readsLetters cX12_readsLetters 2 (some (.boolean)) [(4, 711)] sh M (gPq sh (some (0, b.1)) b.2) := by
  rw [eq_readsLetters] at h
  refine gC_ofA (lv := [_, _]) (by decide +kernel) (Nat.le_of_ble_eq_true rfl) rfl (fun hMw hav => ?_)
  refine g_aload_n (q0 := 1) (j := 0) rfl dX12_readsLetters_0 rfl ?_
  refine g_getf (q0 := 4) (t := 0) (fi := 19) rfl rfl ff_X12_256 dX12_readsLetters_1 rfl (sh_711 hOK) ?_
  refine g_istore_n (q0 := 5) (j := 1) (lv2 := [_, _]) rfl dX12_readsLetters_4 (by decide) rfl rfl ?_
  refine g_aload_n (q0 := 6) (j := 0) rfl dX12_readsLetters_5 rfl ?_
  obtain ⟨r6, e6, h⟩ := gI_bd h
  refine g_callVq1 (as := []) (rest := []) mt_X12_here mi_X12_here se_X12_here ml_X12_265 dX12_readsLetters_6 (q0 := 9) rfl rfl (sh_711 hOK) rfl rfl (ok_here hOK e6) rfl ⟨by decide, by decide⟩ (Nat.le_of_ble_eq_true rfl) ⟨Nat.zero_le _, Nat.zero_le _⟩ ?_
  obtain ⟨r9, e9, h⟩ := gI_bd h
  refine g_callSq1 (as := [_]) (rest := []) mt_X12_isSmall ms_X12_isSmall ml_X12_281 dX12_readsLetters_9 (q0 := 12) rfl rfl (ok_isSmall hOK e9) rfl ⟨by decide, by decide⟩ (Nat.le_of_ble_eq_true rfl) ⟨Nat.zero_le _, Nat.zero_le _⟩ ?_
  refine g_if_ne (q0 := 15) (tgt := 25) rfl dX12_readsLetters_12 (by decide) (fun h12 => ?_) (fun h12 => ?_)
  · replace h := gI_neg h12 h
    refine g_aload_n (q0 := 26) (j := 0) rfl dX12_readsLetters_25 rfl ?_
    refine g_iconst (q0 := 27) rfl dX12_readsLetters_26 (k := ?_)
    refine g_put (q0 := 30) (t := 0) (fi := 22) rfl rfl ff_X12_275 dX12_readsLetters_27 rfl (sh_711 hOK) rfl (fun _ => ⟨rfl, rfl⟩) ?_
    have hOK4 : gOK sh (gU M 711 22 0) := gOK_o hOK (sh_711 hOK) (f := 22) rfl rfl
    exact ok_readsLetters_30 hOK4 h
  · replace h := gI_pos h12 h
    refine g_aload_n (q0 := 16) (j := 0) rfl dX12_readsLetters_15 rfl ?_
    refine g_iconst (q0 := 17) rfl dX12_readsLetters_16 (k := ?_)
    refine g_aload_n (q0 := 18) (j := 0) rfl dX12_readsLetters_17 rfl ?_
    refine g_getf (q0 := 21) (t := 0) (fi := 19) rfl rfl ff_X12_256 dX12_readsLetters_18 rfl (sh_711 hOK) ?_
    obtain ⟨p21, e21, h⟩ := gI_bd h
    refine g_callVq1 (as := [_, _]) (rest := []) mt_X12_wrongAt mi_X12_wrongAt se_X12_wrongAt ml_X12_269 dX12_readsLetters_21 (q0 := 24) rfl rfl (sh_711 hOK) rfl rfl (ok_wrongAt hOK e21) rfl ⟨by decide, by decide⟩ (Nat.le_of_ble_eq_true rfl) ⟨Nat.zero_le _, Nat.zero_le _⟩ ?_
    have hOK5 : gOK sh p21.2 := gOK_fr hOK (fr_wrongAt (b := p21) e21) (by first | decide | (intro a ha; simp only [List.mem_cons, List.not_mem_nil, or_false] at ha; omega)) (by decide)
    rw [← Option.some.inj h]
    refine g_zreturn dX12_readsLetters_24 rfl (gnz (bo_wrongAt (b := p21) e21)) ⟨Nat.zero_le _, Nat.zero_le _⟩ ?_
    exact ⟨rfl, rfl, rfl⟩
-- ==== adds
theorem dX12_adds_0 : decode cX12_adds 0 = .ok (.aload_n 0, 1) := by decide +kernel
theorem dX12_adds_1 : decode cX12_adds 1 = .ok (.getfield 63, 3) := by decide +kernel
theorem dX12_adds_4 : decode cX12_adds 4 = .ok (.sipush 274, 3) := by decide +kernel
theorem dX12_adds_7 : decode cX12_adds 7 = .ok (.iload_n 1, 1) := by decide +kernel
theorem dX12_adds_8 : decode cX12_adds 8 = .ok (.iadd, 1) := by decide +kernel
theorem dX12_adds_9 : decode cX12_adds 9 = .ok (.iaload, 1) := by decide +kernel
theorem dX12_adds_10 : decode cX12_adds 10 = .ok (.istore 4, 2) := by decide +kernel
theorem dX12_adds_12 : decode cX12_adds 12 = .ok (.aload_n 0, 1) := by decide +kernel
theorem dX12_adds_13 : decode cX12_adds 13 = .ok (.getfield 63, 3) := by decide +kernel
theorem dX12_adds_16 : decode cX12_adds 16 = .ok (.sipush 272, 3) := by decide +kernel
theorem dX12_adds_19 : decode cX12_adds 19 = .ok (.iload_n 1, 1) := by decide +kernel
theorem dX12_adds_20 : decode cX12_adds 20 = .ok (.invokestatic 363, 3) := by decide +kernel
theorem dX12_adds_23 : decode cX12_adds 23 = .ok (.iadd, 1) := by decide +kernel
theorem dX12_adds_24 : decode cX12_adds 24 = .ok (.iload 4, 2) := by decide +kernel
theorem dX12_adds_26 : decode cX12_adds 26 = .ok (.iadd, 1) := by decide +kernel
theorem dX12_adds_27 : decode cX12_adds 27 = .ok (.iload_n 2, 1) := by decide +kernel
theorem dX12_adds_28 : decode cX12_adds 28 = .ok (.iastore, 1) := by decide +kernel
theorem dX12_adds_29 : decode cX12_adds 29 = .ok (.iload_n 1, 1) := by decide +kernel
theorem dX12_adds_30 : decode cX12_adds 30 = .ok (.iconst 3, 1) := by decide +kernel
theorem dX12_adds_31 : decode cX12_adds 31 = .ok (.if_icmp .lt 22, 3) := by decide +kernel
theorem dX12_adds_34 : decode cX12_adds 34 = .ok (.aload_n 0, 1) := by decide +kernel
theorem dX12_adds_35 : decode cX12_adds 35 = .ok (.getfield 63, 3) := by decide +kernel
theorem dX12_adds_38 : decode cX12_adds 38 = .ok (.sipush 272, 3) := by decide +kernel
theorem dX12_adds_41 : decode cX12_adds 41 = .ok (.iload_n 1, 1) := by decide +kernel
theorem dX12_adds_42 : decode cX12_adds 42 = .ok (.invokestatic 363, 3) := by decide +kernel
theorem dX12_adds_45 : decode cX12_adds 45 = .ok (.iadd, 1) := by decide +kernel
theorem dX12_adds_46 : decode cX12_adds 46 = .ok (.iconst 4, 1) := by decide +kernel
theorem dX12_adds_47 : decode cX12_adds 47 = .ok (.iadd, 1) := by decide +kernel
theorem dX12_adds_48 : decode cX12_adds 48 = .ok (.iload 4, 2) := by decide +kernel
theorem dX12_adds_50 : decode cX12_adds 50 = .ok (.iadd, 1) := by decide +kernel
theorem dX12_adds_51 : decode cX12_adds 51 = .ok (.iload_n 3, 1) := by decide +kernel
theorem dX12_adds_52 : decode cX12_adds 52 = .ok (.iastore, 1) := by decide +kernel
theorem dX12_adds_53 : decode cX12_adds 53 = .ok (.aload_n 0, 1) := by decide +kernel
theorem dX12_adds_54 : decode cX12_adds 54 = .ok (.getfield 63, 3) := by decide +kernel
theorem dX12_adds_57 : decode cX12_adds 57 = .ok (.sipush 274, 3) := by decide +kernel
theorem dX12_adds_60 : decode cX12_adds 60 = .ok (.iload_n 1, 1) := by decide +kernel
theorem dX12_adds_61 : decode cX12_adds 61 = .ok (.iadd, 1) := by decide +kernel
theorem dX12_adds_62 : decode cX12_adds 62 = .ok (.iload 4, 2) := by decide +kernel
theorem dX12_adds_64 : decode cX12_adds 64 = .ok (.iconst 1, 1) := by decide +kernel
theorem dX12_adds_65 : decode cX12_adds 65 = .ok (.iadd, 1) := by decide +kernel
theorem dX12_adds_66 : decode cX12_adds 66 = .ok (.iastore, 1) := by decide +kernel
theorem dX12_adds_67 : decode cX12_adds 67 = .ok (.iconst 1, 1) := by decide +kernel
theorem dX12_adds_68 : decode cX12_adds 68 = .ok (.ireturn, 1) := by decide +kernel
noncomputable def F_adds (M : gM) (a1 a2 a3 : Int) : Option (Int × gM) := (if 0 ≤ (gw32 ((274 : Int) + a1)) ∧ (gw32 ((274 : Int) + a1)) < 340 then
    (Option.bind (F_listAt a1) (fun r20 =>
      (if 0 ≤ (gw32 ((gw32 ((272 : Int) + r20)) + (M 729 (gw32 ((274 : Int) + a1))))) ∧ (gw32 ((gw32 ((272 : Int) + r20)) + (M 729 (gw32 ((274 : Int) + a1))))) < 340 then
        (if a1 < 3 then
          some (1, (gU (gU M 729 (gw32 ((gw32 ((272 : Int) + r20)) + (M 729 (gw32 ((274 : Int) + a1))))) a2) 729 (gw32 ((274 : Int) + a1)) (gw32 ((M 729 (gw32 ((274 : Int) + a1))) + (1 : Int)))))
        else
          (Option.bind (F_listAt a1) (fun r42 =>
            (if 0 ≤ (gw32 ((gw32 ((gw32 ((272 : Int) + r42)) + (4 : Int))) + (M 729 (gw32 ((274 : Int) + a1))))) ∧ (gw32 ((gw32 ((gw32 ((272 : Int) + r42)) + (4 : Int))) + (M 729 (gw32 ((274 : Int) + a1))))) < 340 then
              some (1, (gU (gU (gU M 729 (gw32 ((gw32 ((272 : Int) + r20)) + (M 729 (gw32 ((274 : Int) + a1))))) a2) 729 (gw32 ((gw32 ((gw32 ((272 : Int) + r42)) + (4 : Int))) + (M 729 (gw32 ((274 : Int) + a1))))) a3) 729 (gw32 ((274 : Int) + a1)) (gw32 ((M 729 (gw32 ((274 : Int) + a1))) + (1 : Int)))))
            else none))))
      else none)))
  else none)
theorem eq_adds (M : gM) (a1 a2 a3 : Int) : F_adds M a1 a2 a3 = (if 0 ≤ (gw32 ((274 : Int) + a1)) ∧ (gw32 ((274 : Int) + a1)) < 340 then
    (Option.bind (F_listAt a1) (fun r20 =>
      (if 0 ≤ (gw32 ((gw32 ((272 : Int) + r20)) + (M 729 (gw32 ((274 : Int) + a1))))) ∧ (gw32 ((gw32 ((272 : Int) + r20)) + (M 729 (gw32 ((274 : Int) + a1))))) < 340 then
        (if a1 < 3 then
          some (1, (gU (gU M 729 (gw32 ((gw32 ((272 : Int) + r20)) + (M 729 (gw32 ((274 : Int) + a1))))) a2) 729 (gw32 ((274 : Int) + a1)) (gw32 ((M 729 (gw32 ((274 : Int) + a1))) + (1 : Int)))))
        else
          (Option.bind (F_listAt a1) (fun r42 =>
            (if 0 ≤ (gw32 ((gw32 ((gw32 ((272 : Int) + r42)) + (4 : Int))) + (M 729 (gw32 ((274 : Int) + a1))))) ∧ (gw32 ((gw32 ((gw32 ((272 : Int) + r42)) + (4 : Int))) + (M 729 (gw32 ((274 : Int) + a1))))) < 340 then
              some (1, (gU (gU (gU M 729 (gw32 ((gw32 ((272 : Int) + r20)) + (M 729 (gw32 ((274 : Int) + a1))))) a2) 729 (gw32 ((gw32 ((gw32 ((272 : Int) + r42)) + (4 : Int))) + (M 729 (gw32 ((274 : Int) + a1))))) a3) 729 (gw32 ((274 : Int) + a1)) (gw32 ((M 729 (gw32 ((274 : Int) + a1))) + (1 : Int)))))
            else none))))
      else none)))
  else none) := rfl
theorem fr_adds {M : gM} {a1 a2 a3 : Int} {b : Int × gM} (h : F_adds M a1 a2 a3 = some b) : gFr [729] [] M b.2 := by
  rw [eq_adds] at h
  obtain ⟨g1, h⟩ := gI_gd h
  obtain ⟨r20, e20, h⟩ := gI_bd h
  obtain ⟨g2, h⟩ := gI_gd h
  rcases gI_or h with h | h
  · rw [← Option.some.inj h]
    exact (gFr_a (gFr_a (gFr_r [729] [] _) (.head _) (by decide)) (.head _) (by decide))
  · obtain ⟨r42, e42, h⟩ := gI_bd h
    obtain ⟨g5, h⟩ := gI_gd h
    rw [← Option.some.inj h]
    exact (gFr_a (gFr_a (gFr_a (gFr_r [729] [] _) (.head _) (by decide)) (.head _) (by decide)) (.head _) (by decide))
theorem bo_adds {M : gM} {a1 a2 a3 : Int} {b : Int × gM} (h : F_adds M a1 a2 a3 = some b) : b.1 = 0 ∨ b.1 = 1 := by
  rw [eq_adds] at h
  obtain ⟨g1, h⟩ := gI_gd h
  obtain ⟨r20, e20, h⟩ := gI_bd h
  obtain ⟨g2, h⟩ := gI_gd h
  rcases gI_or h with h | h
  · rw [← Option.some.inj h]
    exact (Or.inr rfl)
  · obtain ⟨r42, e42, h⟩ := gI_bd h
    obtain ⟨g5, h⟩ := gI_gd h
    rw [← Option.some.inj h]
    exact (Or.inr rfl)
theorem ok_adds {sh : gS} {M : gM} {a1 a2 a3 : Int} {b : Int × gM} (hOK : gOK sh M) (h : F_adds M a1 a2 a3 = some b) : gC (gr 1 20) yX12_adds cX12_adds 5 (some (.boolean)) [(4, 711), (0, a1), (0, a2), (0, a3)] sh M (gPq sh (some (0, b.1)) b.2) := by
  rw [eq_adds] at h
  refine gC_ofA (lv := [_, _, _, _, _]) (by decide +kernel) (Nat.le_of_ble_eq_true rfl) rfl (fun hMw hav => ?_)
  refine g_aload_n (q0 := 1) (j := 0) rfl dX12_adds_0 rfl ?_
  refine g_getp (q0 := 4) (b := 729) rfl ff_X12_63 dX12_adds_1 rfl hOK (by decide) (sh_711 hOK) rfl (by decide) ?_
  refine g_sipush (q0 := 7) rfl dX12_adds_4 (k := ?_)
  refine g_iload_n (q0 := 8) (j := 1) rfl dX12_adds_7 rfl ?_
  refine g_iaddw (q0 := 9) rfl dX12_adds_8 ?_
  obtain ⟨g1, h⟩ := gI_gd h
  refine g_iald (q0 := 10) rfl dX12_adds_9 (sh_729 hOK) g1.1 g1.2 ?_
  refine g_istore (q0 := 12) (j := 4) (lv2 := [_, _, _, _, _]) rfl dX12_adds_10 (by decide) rfl rfl ?_
  refine g_aload_n (q0 := 13) (j := 0) rfl dX12_adds_12 rfl ?_
  refine g_getp (q0 := 16) (b := 729) rfl ff_X12_63 dX12_adds_13 rfl hOK (by decide) (sh_711 hOK) rfl (by decide) ?_
  refine g_sipush (q0 := 19) rfl dX12_adds_16 (k := ?_)
  refine g_iload_n (q0 := 20) (j := 1) rfl dX12_adds_19 rfl ?_
  obtain ⟨r20, e20, h⟩ := gI_bd h
  refine g_callSq1 (as := [_]) (rest := [_, _]) mt_X12_listAt ms_X12_listAt ml_X12_363 dX12_adds_20 (q0 := 23) rfl rfl (ok_listAt hOK e20) rfl ⟨by decide, by decide⟩ (Nat.le_of_ble_eq_true rfl) ⟨Nat.zero_le _, Nat.zero_le _⟩ ?_
  refine g_iaddw (q0 := 24) rfl dX12_adds_23 ?_
  refine g_iload (q0 := 26) (j := 4) rfl dX12_adds_24 rfl ?_
  refine g_iaddw (q0 := 27) rfl dX12_adds_26 ?_
  refine g_iload_n (q0 := 28) (j := 2) rfl dX12_adds_27 rfl ?_
  obtain ⟨g2, h⟩ := gI_gd h
  refine g_iast (q0 := 29) rfl dX12_adds_28 (sh_729 hOK) g2.1 g2.2 ?_
  have hOK3 : gOK sh (gU M 729 (gw32 ((gw32 ((272 : Int) + r20)) + (M 729 (gw32 ((274 : Int) + a1))))) a2) := gOK_i hOK (sh_729 hOK)
  refine g_iload_n (q0 := 30) (j := 1) rfl dX12_adds_29 rfl ?_
  refine g_iconst (q0 := 31) rfl dX12_adds_30 (k := ?_)
  refine g_icmp_lt (q0 := 34) (tgt := 53) rfl dX12_adds_31 (by decide) (fun h31 => ?_) (fun h31 => ?_)
  · replace h := gI_pos h31 h
    refine g_aload_n (q0 := 54) (j := 0) rfl dX12_adds_53 rfl ?_
    refine g_getp (q0 := 57) (b := 729) rfl ff_X12_63 dX12_adds_54 rfl hOK3 (by decide) (sh_711 hOK3) rfl (by decide) ?_
    refine g_sipush (q0 := 60) rfl dX12_adds_57 (k := ?_)
    refine g_iload_n (q0 := 61) (j := 1) rfl dX12_adds_60 rfl ?_
    refine g_iaddw (q0 := 62) rfl dX12_adds_61 ?_
    refine g_iload (q0 := 64) (j := 4) rfl dX12_adds_62 rfl ?_
    refine g_iconst (q0 := 65) rfl dX12_adds_64 (k := ?_)
    refine g_iaddw (q0 := 66) rfl dX12_adds_65 ?_
    refine g_iast (q0 := 67) rfl dX12_adds_66 (sh_729 hOK3) g1.1 g1.2 ?_
    have hOK4 : gOK sh (gU (gU M 729 (gw32 ((gw32 ((272 : Int) + r20)) + (M 729 (gw32 ((274 : Int) + a1))))) a2) 729 (gw32 ((274 : Int) + a1)) (gw32 ((M 729 (gw32 ((274 : Int) + a1))) + (1 : Int)))) := gOK_i hOK3 (sh_729 hOK3)
    refine g_iconst (q0 := 68) rfl dX12_adds_67 (k := ?_)
    rw [← Option.some.inj h]
    refine g_zreturn dX12_adds_68 rfl (gnz (Or.inr rfl)) ⟨Nat.zero_le _, Nat.zero_le _⟩ ?_
    exact ⟨rfl, rfl, rfl⟩
  · replace h := gI_neg (Int.not_lt.mpr h31) h
    refine g_aload_n (q0 := 35) (j := 0) rfl dX12_adds_34 rfl ?_
    refine g_getp (q0 := 38) (b := 729) rfl ff_X12_63 dX12_adds_35 rfl hOK3 (by decide) (sh_711 hOK3) rfl (by decide) ?_
    refine g_sipush (q0 := 41) rfl dX12_adds_38 (k := ?_)
    refine g_iload_n (q0 := 42) (j := 1) rfl dX12_adds_41 rfl ?_
    obtain ⟨r42, e42, h⟩ := gI_bd h
    refine g_callSq1 (as := [_]) (rest := [_, _]) mt_X12_listAt ms_X12_listAt ml_X12_363 dX12_adds_42 (q0 := 45) rfl rfl (ok_listAt hOK3 e42) rfl ⟨by decide, by decide⟩ (Nat.le_of_ble_eq_true rfl) ⟨Nat.zero_le _, Nat.zero_le _⟩ ?_
    refine g_iaddw (q0 := 46) rfl dX12_adds_45 ?_
    refine g_iconst (q0 := 47) rfl dX12_adds_46 (k := ?_)
    refine g_iaddw (q0 := 48) rfl dX12_adds_47 ?_
    refine g_iload (q0 := 50) (j := 4) rfl dX12_adds_48 rfl ?_
    refine g_iaddw (q0 := 51) rfl dX12_adds_50 ?_
    refine g_iload_n (q0 := 52) (j := 3) rfl dX12_adds_51 rfl ?_
    obtain ⟨g5, h⟩ := gI_gd h
    refine g_iast (q0 := 53) rfl dX12_adds_52 (sh_729 hOK3) g5.1 g5.2 ?_
    have hOK6 : gOK sh (gU (gU M 729 (gw32 ((gw32 ((272 : Int) + r20)) + (M 729 (gw32 ((274 : Int) + a1))))) a2) 729 (gw32 ((gw32 ((gw32 ((272 : Int) + r42)) + (4 : Int))) + (M 729 (gw32 ((274 : Int) + a1))))) a3) := gOK_i hOK3 (sh_729 hOK3)
    refine g_aload_n (q0 := 54) (j := 0) rfl dX12_adds_53 rfl ?_
    refine g_getp (q0 := 57) (b := 729) rfl ff_X12_63 dX12_adds_54 rfl hOK6 (by decide) (sh_711 hOK6) rfl (by decide) ?_
    refine g_sipush (q0 := 60) rfl dX12_adds_57 (k := ?_)
    refine g_iload_n (q0 := 61) (j := 1) rfl dX12_adds_60 rfl ?_
    refine g_iaddw (q0 := 62) rfl dX12_adds_61 ?_
    refine g_iload (q0 := 64) (j := 4) rfl dX12_adds_62 rfl ?_
    refine g_iconst (q0 := 65) rfl dX12_adds_64 (k := ?_)
    refine g_iaddw (q0 := 66) rfl dX12_adds_65 ?_
    refine g_iast (q0 := 67) rfl dX12_adds_66 (sh_729 hOK6) g1.1 g1.2 ?_
    have hOK7 : gOK sh (gU (gU (gU M 729 (gw32 ((gw32 ((272 : Int) + r20)) + (M 729 (gw32 ((274 : Int) + a1))))) a2) 729 (gw32 ((gw32 ((gw32 ((272 : Int) + r42)) + (4 : Int))) + (M 729 (gw32 ((274 : Int) + a1))))) a3) 729 (gw32 ((274 : Int) + a1)) (gw32 ((M 729 (gw32 ((274 : Int) + a1))) + (1 : Int)))) := gOK_i hOK6 (sh_729 hOK6)
    refine g_iconst (q0 := 68) rfl dX12_adds_67 (k := ?_)
    rw [← Option.some.inj h]
    refine g_zreturn dX12_adds_68 rfl (gnz (Or.inr rfl)) ⟨Nat.zero_le _, Nat.zero_le _⟩ ?_
    exact ⟨rfl, rfl, rfl⟩
-- ==== isNamed
theorem dX12_isNamed_0 : decode cX12_isNamed 0 = .ok (.iconst 0, 1) := by decide +kernel
theorem dX12_isNamed_1 : decode cX12_isNamed 1 = .ok (.istore_n 3, 1) := by decide +kernel
theorem dX12_isNamed_2 : decode cX12_isNamed 2 = .ok (.iload_n 3, 1) := by decide +kernel
theorem dX12_isNamed_3 : decode cX12_isNamed 3 = .ok (.aload_n 0, 1) := by decide +kernel
theorem dX12_isNamed_4 : decode cX12_isNamed 4 = .ok (.getfield 63, 3) := by decide +kernel
theorem dX12_isNamed_7 : decode cX12_isNamed 7 = .ok (.sipush 274, 3) := by decide +kernel
theorem dX12_isNamed_10 : decode cX12_isNamed 10 = .ok (.iload_n 1, 1) := by decide +kernel
theorem dX12_isNamed_11 : decode cX12_isNamed 11 = .ok (.iadd, 1) := by decide +kernel
theorem dX12_isNamed_12 : decode cX12_isNamed 12 = .ok (.iaload, 1) := by decide +kernel
theorem dX12_isNamed_13 : decode cX12_isNamed 13 = .ok (.if_icmp .ge 30, 3) := by decide +kernel
theorem dX12_isNamed_16 : decode cX12_isNamed 16 = .ok (.aload_n 0, 1) := by decide +kernel
theorem dX12_isNamed_17 : decode cX12_isNamed 17 = .ok (.getfield 63, 3) := by decide +kernel
theorem dX12_isNamed_20 : decode cX12_isNamed 20 = .ok (.sipush 272, 3) := by decide +kernel
theorem dX12_isNamed_23 : decode cX12_isNamed 23 = .ok (.iload_n 1, 1) := by decide +kernel
theorem dX12_isNamed_24 : decode cX12_isNamed 24 = .ok (.invokestatic 363, 3) := by decide +kernel
theorem dX12_isNamed_27 : decode cX12_isNamed 27 = .ok (.iadd, 1) := by decide +kernel
theorem dX12_isNamed_28 : decode cX12_isNamed 28 = .ok (.iload_n 3, 1) := by decide +kernel
theorem dX12_isNamed_29 : decode cX12_isNamed 29 = .ok (.iadd, 1) := by decide +kernel
theorem dX12_isNamed_30 : decode cX12_isNamed 30 = .ok (.iaload, 1) := by decide +kernel
theorem dX12_isNamed_31 : decode cX12_isNamed 31 = .ok (.iload_n 2, 1) := by decide +kernel
theorem dX12_isNamed_32 : decode cX12_isNamed 32 = .ok (.if_icmp .ne 5, 3) := by decide +kernel
theorem dX12_isNamed_35 : decode cX12_isNamed 35 = .ok (.iconst 1, 1) := by decide +kernel
theorem dX12_isNamed_36 : decode cX12_isNamed 36 = .ok (.ireturn, 1) := by decide +kernel
theorem dX12_isNamed_37 : decode cX12_isNamed 37 = .ok (.iinc 3 1, 3) := by decide +kernel
theorem dX12_isNamed_40 : decode cX12_isNamed 40 = .ok (.goto (-38), 3) := by decide +kernel
theorem dX12_isNamed_43 : decode cX12_isNamed 43 = .ok (.iconst 0, 1) := by decide +kernel
theorem dX12_isNamed_44 : decode cX12_isNamed 44 = .ok (.ireturn, 1) := by decide +kernel
noncomputable def st_isNamed (M : gM) : Nat × List Int → Option ((Nat × List Int) ⊕ (Int))
  | (0, [x1, x2, x3]) => (if 0 ≤ (gw32 ((274 : Int) + x1)) ∧ (gw32 ((274 : Int) + x1)) < 340 then
      (if x3 < (M 729 (gw32 ((274 : Int) + x1))) then
        (Option.bind (F_listAt x1) (fun r24 =>
          (if 0 ≤ (gw32 ((gw32 ((272 : Int) + r24)) + x3)) ∧ (gw32 ((gw32 ((272 : Int) + r24)) + x3)) < 340 then
            (if (M 729 (gw32 ((gw32 ((272 : Int) + r24)) + x3))) = x2 then
              some (.inr 1)
            else
              some (.inl (0, [x1, x2, (gw32 (x3 + 1))])))
          else none)))
      else
        some (.inr 0))
    else none)
  | _ => none
theorem sk_isNamed_2 (k : Nat × List Int → Option (Int)) (M : gM) (x1 x2 x3 : Int) : gWk k (st_isNamed M (0, [x1, x2, x3])) = (if 0 ≤ (gw32 ((274 : Int) + x1)) ∧ (gw32 ((274 : Int) + x1)) < 340 then
    (if x3 < (M 729 (gw32 ((274 : Int) + x1))) then
      (Option.bind (F_listAt x1) (fun r24 =>
        (if 0 ≤ (gw32 ((gw32 ((272 : Int) + r24)) + x3)) ∧ (gw32 ((gw32 ((272 : Int) + r24)) + x3)) < 340 then
          (if (M 729 (gw32 ((gw32 ((272 : Int) + r24)) + x3))) = x2 then
            some 1
          else
            k (0, [x1, x2, (gw32 (x3 + 1))]))
        else none)))
    else
      some 0)
  else none) := by
  simp only [st_isNamed, gWk_ite, gWk_bind, gWk_inl, gWk_inr, gWk_none]
noncomputable def F_isNamed_2 (M : gM) (x1 x2 x3 : Int) : Option (Int) := gWh (st_isNamed M) (0, [x1, x2, x3])
theorem eq_isNamed_2 (M : gM) (x1 x2 x3 : Int) : F_isNamed_2 M x1 x2 x3 = (if 0 ≤ (gw32 ((274 : Int) + x1)) ∧ (gw32 ((274 : Int) + x1)) < 340 then
    (if x3 < (M 729 (gw32 ((274 : Int) + x1))) then
      (Option.bind (F_listAt x1) (fun r24 =>
        (if 0 ≤ (gw32 ((gw32 ((272 : Int) + r24)) + x3)) ∧ (gw32 ((gw32 ((272 : Int) + r24)) + x3)) < 340 then
          (if (M 729 (gw32 ((gw32 ((272 : Int) + r24)) + x3))) = x2 then
            some 1
          else
            F_isNamed_2 M x1 x2 (gw32 (x3 + 1)))
        else none)))
    else
      some 0)
  else none) := (gWh_eq _).trans (sk_isNamed_2 _ M x1 x2 x3)
noncomputable def F_isNamed (M : gM) (a1 a2 : Int) : Option (Int) := F_isNamed_2 M a1 a2 0
theorem eq_isNamed (M : gM) (a1 a2 : Int) : F_isNamed M a1 a2 = F_isNamed_2 M a1 a2 0 := rfl
theorem bop_isNamed {M : gM} : ∀ (s : Nat × List Int) (b : Int), gWh (st_isNamed M) s = some b → (∀ (x1 x2 x3 : Int), s = (0, [x1, x2, x3]) → b = 0 ∨ b = 1) := by
  refine gWh_ind (fun k hk s b h => ?_)
  · rintro x1 x2 x3 rfl
    rw [sk_isNamed_2] at h
    obtain ⟨g1, h⟩ := gI_gd h
    rcases gI_or h with h | h
    · obtain ⟨r24, e24, h⟩ := gI_bd h
      obtain ⟨g2, h⟩ := gI_gd h
      rcases gI_or h with h | h
      · rw [← Option.some.inj h]
        exact (Or.inr rfl)
      · exact (hk _ _ h) _ _ _ rfl
    · rw [← Option.some.inj h]
      exact (Or.inl rfl)
theorem bo_isNamed_2 {M : gM} {x1 x2 x3 : Int} {b : Int} (h : F_isNamed_2 M x1 x2 x3 = some b) : b = 0 ∨ b = 1 :=
  (bop_isNamed _ _ h) _ _ _ rfl
theorem bo_isNamed {M : gM} {a1 a2 : Int} {b : Int} (h : F_isNamed M a1 a2 = some b) : b = 0 ∨ b = 1 := by
  rw [eq_isNamed] at h
  exact bo_isNamed_2 h
theorem okp_isNamed {sh : gS} {M : gM} : ∀ (s : Nat × List Int) (b : Int), gWh (st_isNamed M) s = some b → (∀ (x1 x2 x3 : Int), s = (0, [x1, x2, x3]) → gOK sh M → gA (gr 1 20) yX12_isNamed cX12_isNamed 4 (some (.boolean)) (gPq sh (some (0, b)) M) (0, 0) 2 [(4, 711), (0, x1), (0, x2), (0, x3)] [] sh M) := by
  refine gWh_ind (fun k hk s b h => ?_)
  · rintro x1 x2 x3 rfl hOK
    rw [sk_isNamed_2] at h
    refine g_iload_n (q0 := 3) (j := 3) rfl dX12_isNamed_2 rfl ?_
    refine g_aload_n (q0 := 4) (j := 0) rfl dX12_isNamed_3 rfl ?_
    refine g_getp (q0 := 7) (b := 729) rfl ff_X12_63 dX12_isNamed_4 rfl hOK (by decide) (sh_711 hOK) rfl (by decide) ?_
    refine g_sipush (q0 := 10) rfl dX12_isNamed_7 (k := ?_)
    refine g_iload_n (q0 := 11) (j := 1) rfl dX12_isNamed_10 rfl ?_
    refine g_iaddw (q0 := 12) rfl dX12_isNamed_11 ?_
    obtain ⟨g1, h⟩ := gI_gd h
    refine g_iald (q0 := 13) rfl dX12_isNamed_12 (sh_729 hOK) g1.1 g1.2 ?_
    refine g_icmp_ge (q0 := 16) (tgt := 43) rfl dX12_isNamed_13 (by decide) (fun h13 => ?_) (fun h13 => ?_)
    · replace h := gI_neg (Int.not_lt.mpr h13) h
      refine g_iconst (q0 := 44) rfl dX12_isNamed_43 (k := ?_)
      rw [← Option.some.inj h]
      refine g_zreturn dX12_isNamed_44 rfl (gnz (Or.inl rfl)) ⟨Nat.zero_le _, Nat.zero_le _⟩ ?_
      exact ⟨rfl, rfl, rfl⟩
    · replace h := gI_pos h13 h
      refine g_aload_n (q0 := 17) (j := 0) rfl dX12_isNamed_16 rfl ?_
      refine g_getp (q0 := 20) (b := 729) rfl ff_X12_63 dX12_isNamed_17 rfl hOK (by decide) (sh_711 hOK) rfl (by decide) ?_
      refine g_sipush (q0 := 23) rfl dX12_isNamed_20 (k := ?_)
      refine g_iload_n (q0 := 24) (j := 1) rfl dX12_isNamed_23 rfl ?_
      obtain ⟨r24, e24, h⟩ := gI_bd h
      refine g_callSq1 (as := [_]) (rest := [_, _]) mt_X12_listAt ms_X12_listAt ml_X12_363 dX12_isNamed_24 (q0 := 27) rfl rfl (ok_listAt hOK e24) rfl ⟨by decide, by decide⟩ (Nat.le_of_ble_eq_true rfl) ⟨Nat.zero_le _, Nat.zero_le _⟩ ?_
      refine g_iaddw (q0 := 28) rfl dX12_isNamed_27 ?_
      refine g_iload_n (q0 := 29) (j := 3) rfl dX12_isNamed_28 rfl ?_
      refine g_iaddw (q0 := 30) rfl dX12_isNamed_29 ?_
      obtain ⟨g2, h⟩ := gI_gd h
      refine g_iald (q0 := 31) rfl dX12_isNamed_30 (sh_729 hOK) g2.1 g2.2 ?_
      refine g_iload_n (q0 := 32) (j := 2) rfl dX12_isNamed_31 rfl ?_
      refine g_icmp_ne (q0 := 35) (tgt := 37) rfl dX12_isNamed_32 (by decide) (fun h32 => ?_) (fun h32 => ?_)
      · replace h := gI_neg h32 h
        refine g_iincw (q0 := 40) (lv2 := [_, _, _, _]) rfl dX12_isNamed_37 rfl (by decide) rfl rfl ?_
        refine g_goto (tgt := 2) dX12_isNamed_40 (by decide) ?_
        exact (hk _ _ h) _ _ _ rfl hOK
      · replace h := gI_pos h32 h
        refine g_iconst (q0 := 36) rfl dX12_isNamed_35 (k := ?_)
        rw [← Option.some.inj h]
        refine g_zreturn dX12_isNamed_36 rfl (gnz (Or.inr rfl)) ⟨Nat.zero_le _, Nat.zero_le _⟩ ?_
        exact ⟨rfl, rfl, rfl⟩
theorem ok_isNamed_2 {sh : gS} {M : gM} {x1 x2 x3 : Int} {b : Int} (hOK : gOK sh M) (h : F_isNamed_2 M x1 x2 x3 = some b) : gA (gr 1 20) yX12_isNamed cX12_isNamed 4 (some (.boolean)) (gPq sh (some (0, b)) M) (0, 0) 2 [(4, 711), (0, x1), (0, x2), (0, x3)] [] sh M :=
  (okp_isNamed _ _ h) _ _ _ rfl hOK
theorem ok_isNamed {sh : gS} {M : gM} {a1 a2 : Int} {b : Int} (hOK : gOK sh M) (h : F_isNamed M a1 a2 = some b) : gC (gr 1 20) yX12_isNamed cX12_isNamed 4 (some (.boolean)) [(4, 711), (0, a1), (0, a2)] sh M (gPq sh (some (0, b)) M) := by
  rw [eq_isNamed] at h
  refine gC_ofA (lv := [_, _, _, _]) (by decide +kernel) (Nat.le_of_ble_eq_true rfl) rfl (fun hMw hav => ?_)
  refine g_iconst (q0 := 1) rfl dX12_isNamed_0 (k := ?_)
  refine g_istore_n (q0 := 2) (j := 3) (lv2 := [_, _, _, _]) rfl dX12_isNamed_1 (by decide) rfl rfl ?_
  exact ok_isNamed_2 hOK h
-- ==== readsFirst
theorem dX12_readsFirst_0 : decode cX12_readsFirst 0 = .ok (.iload_n 1, 1) := by decide +kernel
theorem dX12_readsFirst_1 : decode cX12_readsFirst 1 = .ok (.iconst 3, 1) := by decide +kernel
theorem dX12_readsFirst_2 : decode cX12_readsFirst 2 = .ok (.if_icmp .ne 22, 3) := by decide +kernel
theorem dX12_readsFirst_5 : decode cX12_readsFirst 5 = .ok (.aload_n 0, 1) := by decide +kernel
theorem dX12_readsFirst_6 : decode cX12_readsFirst 6 = .ok (.invokevirtual 372, 3) := by decide +kernel
theorem dX12_readsFirst_9 : decode cX12_readsFirst 9 = .ok (.ifCond .ne 5, 3) := by decide +kernel
theorem dX12_readsFirst_12 : decode cX12_readsFirst 12 = .ok (.iconst 0, 1) := by decide +kernel
theorem dX12_readsFirst_13 : decode cX12_readsFirst 13 = .ok (.ireturn, 1) := by decide +kernel
theorem dX12_readsFirst_14 : decode cX12_readsFirst 14 = .ok (.aload_n 0, 1) := by decide +kernel
theorem dX12_readsFirst_15 : decode cX12_readsFirst 15 = .ok (.aload_n 0, 1) := by decide +kernel
theorem dX12_readsFirst_16 : decode cX12_readsFirst 16 = .ok (.getfield 278, 3) := by decide +kernel
theorem dX12_readsFirst_19 : decode cX12_readsFirst 19 = .ok (.putfield 275, 3) := by decide +kernel
theorem dX12_readsFirst_22 : decode cX12_readsFirst 22 = .ok (.iconst 1, 1) := by decide +kernel
theorem dX12_readsFirst_23 : decode cX12_readsFirst 23 = .ok (.ireturn, 1) := by decide +kernel
theorem dX12_readsFirst_24 : decode cX12_readsFirst 24 = .ok (.iload_n 1, 1) := by decide +kernel
theorem dX12_readsFirst_25 : decode cX12_readsFirst 25 = .ok (.iconst 4, 1) := by decide +kernel
theorem dX12_readsFirst_26 : decode cX12_readsFirst 26 = .ok (.if_icmp .ne 10, 3) := by decide +kernel
theorem dX12_readsFirst_29 : decode cX12_readsFirst 29 = .ok (.aload_n 0, 1) := by decide +kernel
theorem dX12_readsFirst_30 : decode cX12_readsFirst 30 = .ok (.invokevirtual 300, 3) := by decide +kernel
theorem dX12_readsFirst_33 : decode cX12_readsFirst 33 = .ok (.goto 7, 3) := by decide +kernel
theorem dX12_readsFirst_36 : decode cX12_readsFirst 36 = .ok (.aload_n 0, 1) := by decide +kernel
theorem dX12_readsFirst_37 : decode cX12_readsFirst 37 = .ok (.invokevirtual 375, 3) := by decide +kernel
theorem dX12_readsFirst_40 : decode cX12_readsFirst 40 = .ok (.ireturn, 1) := by decide +kernel
noncomputable def F_readsFirst (M : gM) (a1 : Int) : Option (Int × gM) := (if a1 = 3 then
    (Option.bind (F_readsPlace M) (fun p6 =>
      (if p6.1 = 0 then
        some (0, p6.2)
      else
        some (1, (gU p6.2 711 22 (p6.2 711 23))))))
  else
    (if a1 = 4 then
      (Option.bind (F_readsContent M) (fun p30 =>
        some (p30.1, p30.2)))
    else
      (Option.bind (F_readsLetters M) (fun p37 =>
        some (p37.1, p37.2)))))
theorem eq_readsFirst (M : gM) (a1 : Int) : F_readsFirst M a1 = (if a1 = 3 then
    (Option.bind (F_readsPlace M) (fun p6 =>
      (if p6.1 = 0 then
        some (0, p6.2)
      else
        some (1, (gU p6.2 711 22 (p6.2 711 23))))))
  else
    (if a1 = 4 then
      (Option.bind (F_readsContent M) (fun p30 =>
        some (p30.1, p30.2)))
    else
      (Option.bind (F_readsLetters M) (fun p37 =>
        some (p37.1, p37.2))))) := rfl
theorem fr_readsFirst {M : gM} {a1 : Int} {b : Int × gM} (h : F_readsFirst M a1 = some b) : gFr [] [19, 21, 22, 23] M b.2 := by
  rw [eq_readsFirst] at h
  rcases gI_or h with h | h
  · obtain ⟨p6, e6, h⟩ := gI_bd h
    rcases gI_or h with h | h
    · rw [← Option.some.inj h]
      exact (gFr_t (gFr_r [] [19, 21, 22, 23] _) (fr_readsPlace (b := p6) e6) (by first | decide | simp) (by decide))
    · rw [← Option.some.inj h]
      exact (gFr_f (gFr_t (gFr_r [] [19, 21, 22, 23] _) (fr_readsPlace (b := p6) e6) (by first | decide | simp) (by decide)) (.tail _ (.tail _ (.head _))))
  · rcases gI_or h with h | h
    · obtain ⟨p30, e30, h⟩ := gI_bd h
      rw [← Option.some.inj h]
      exact (gFr_t (gFr_r [] [19, 21, 22, 23] _) (fr_readsContent (b := p30) e30) (by first | decide | simp) (by decide))
    · obtain ⟨p37, e37, h⟩ := gI_bd h
      rw [← Option.some.inj h]
      exact (gFr_t (gFr_r [] [19, 21, 22, 23] _) (fr_readsLetters (b := p37) e37) (by first | decide | simp) (by decide))
theorem bo_readsFirst {M : gM} {a1 : Int} {b : Int × gM} (h : F_readsFirst M a1 = some b) : b.1 = 0 ∨ b.1 = 1 := by
  rw [eq_readsFirst] at h
  rcases gI_or h with h | h
  · obtain ⟨p6, e6, h⟩ := gI_bd h
    rcases gI_or h with h | h
    · rw [← Option.some.inj h]
      exact (Or.inl rfl)
    · rw [← Option.some.inj h]
      exact (Or.inr rfl)
  · rcases gI_or h with h | h
    · obtain ⟨p30, e30, h⟩ := gI_bd h
      rw [← Option.some.inj h]
      exact (bo_readsContent (b := p30) e30)
    · obtain ⟨p37, e37, h⟩ := gI_bd h
      rw [← Option.some.inj h]
      exact (bo_readsLetters (b := p37) e37)
theorem ok_readsFirst {sh : gS} {M : gM} {a1 : Int} {b : Int × gM} (hOK : gOK sh M) (h : F_readsFirst M a1 = some b) : gC (gr 4 84) yX12_readsFirst cX12_readsFirst 2 (some (.boolean)) [(4, 711), (0, a1)] sh M (gPq sh (some (0, b.1)) b.2) := by
  rw [eq_readsFirst] at h
  refine gC_ofA (lv := [_, _]) (by decide +kernel) (Nat.le_of_ble_eq_true rfl) rfl (fun hMw hav => ?_)
  refine g_iload_n (q0 := 1) (j := 1) rfl dX12_readsFirst_0 rfl ?_
  refine g_iconst (q0 := 2) rfl dX12_readsFirst_1 (k := ?_)
  refine g_icmp_ne (q0 := 5) (tgt := 24) rfl dX12_readsFirst_2 (by decide) (fun h2 => ?_) (fun h2 => ?_)
  · replace h := gI_neg h2 h
    refine g_iload_n (q0 := 25) (j := 1) rfl dX12_readsFirst_24 rfl ?_
    refine g_iconst (q0 := 26) rfl dX12_readsFirst_25 (k := ?_)
    refine g_icmp_ne (q0 := 29) (tgt := 36) rfl dX12_readsFirst_26 (by decide) (fun h26 => ?_) (fun h26 => ?_)
    · replace h := gI_neg h26 h
      refine g_aload_n (q0 := 37) (j := 0) rfl dX12_readsFirst_36 rfl ?_
      obtain ⟨p37, e37, h⟩ := gI_bd h
      refine g_callVq1 (as := []) (rest := []) mt_X12_readsLetters mi_X12_readsLetters se_X12_readsLetters ml_X12_375 dX12_readsFirst_37 (q0 := 40) rfl rfl (sh_711 hOK) rfl rfl (ok_readsLetters hOK e37) rfl ⟨by decide, by decide⟩ (Nat.le_of_ble_eq_true rfl) ⟨Nat.zero_le _, Nat.zero_le _⟩ ?_
      have hOK1 : gOK sh p37.2 := gOK_fr hOK (fr_readsLetters (b := p37) e37) (by first | decide | (intro a ha; simp only [List.mem_cons, List.not_mem_nil, or_false] at ha; omega)) (by decide)
      rw [← Option.some.inj h]
      refine g_zreturn dX12_readsFirst_40 rfl (gnz (bo_readsLetters (b := p37) e37)) ⟨Nat.zero_le _, Nat.zero_le _⟩ ?_
      exact ⟨rfl, rfl, rfl⟩
    · replace h := gI_pos h26 h
      refine g_aload_n (q0 := 30) (j := 0) rfl dX12_readsFirst_29 rfl ?_
      obtain ⟨p30, e30, h⟩ := gI_bd h
      refine g_callVq1 (as := []) (rest := []) mt_X12_readsContent mi_X12_readsContent se_X12_readsContent ml_X12_300 dX12_readsFirst_30 (q0 := 33) rfl rfl (sh_711 hOK) rfl rfl (ok_readsContent hOK e30) rfl ⟨by decide, by decide⟩ (Nat.le_of_ble_eq_true rfl) ⟨Nat.zero_le _, Nat.zero_le _⟩ ?_
      have hOK2 : gOK sh p30.2 := gOK_fr hOK (fr_readsContent (b := p30) e30) (by first | decide | (intro a ha; simp only [List.mem_cons, List.not_mem_nil, or_false] at ha; omega)) (by decide)
      refine g_goto (tgt := 40) dX12_readsFirst_33 (by decide) ?_
      rw [← Option.some.inj h]
      refine g_zreturn dX12_readsFirst_40 rfl (gnz (bo_readsContent (b := p30) e30)) ⟨Nat.zero_le _, Nat.zero_le _⟩ ?_
      exact ⟨rfl, rfl, rfl⟩
  · replace h := gI_pos h2 h
    refine g_aload_n (q0 := 6) (j := 0) rfl dX12_readsFirst_5 rfl ?_
    obtain ⟨p6, e6, h⟩ := gI_bd h
    refine g_callVq1 (as := []) (rest := []) mt_X12_readsPlace mi_X12_readsPlace se_X12_readsPlace ml_X12_372 dX12_readsFirst_6 (q0 := 9) rfl rfl (sh_711 hOK) rfl rfl (ok_readsPlace hOK e6) rfl ⟨by decide, by decide⟩ (Nat.le_of_ble_eq_true rfl) ⟨Nat.zero_le _, Nat.zero_le _⟩ ?_
    have hOK3 : gOK sh p6.2 := gOK_fr hOK (fr_readsPlace (b := p6) e6) (by first | decide | (intro a ha; simp only [List.mem_cons, List.not_mem_nil, or_false] at ha; omega)) (by decide)
    refine g_if_ne (q0 := 12) (tgt := 14) rfl dX12_readsFirst_9 (by decide) (fun h9 => ?_) (fun h9 => ?_)
    · replace h := gI_neg h9 h
      refine g_aload_n (q0 := 15) (j := 0) rfl dX12_readsFirst_14 rfl ?_
      refine g_aload_n (q0 := 16) (j := 0) rfl dX12_readsFirst_15 rfl ?_
      refine g_getf (q0 := 19) (t := 0) (fi := 23) rfl rfl ff_X12_278 dX12_readsFirst_16 rfl (sh_711 hOK3) ?_
      refine g_put (q0 := 22) (t := 0) (fi := 22) rfl rfl ff_X12_275 dX12_readsFirst_19 rfl (sh_711 hOK3) rfl (fun _ => ⟨rfl, rfl⟩) ?_
      have hOK4 : gOK sh (gU p6.2 711 22 (p6.2 711 23)) := gOK_o hOK3 (sh_711 hOK3) (f := 22) rfl rfl
      refine g_iconst (q0 := 23) rfl dX12_readsFirst_22 (k := ?_)
      rw [← Option.some.inj h]
      refine g_zreturn dX12_readsFirst_23 rfl (gnz (Or.inr rfl)) ⟨Nat.zero_le _, Nat.zero_le _⟩ ?_
      exact ⟨rfl, rfl, rfl⟩
    · replace h := gI_pos h9 h
      refine g_iconst (q0 := 13) rfl dX12_readsFirst_12 (k := ?_)
      rw [← Option.some.inj h]
      refine g_zreturn dX12_readsFirst_13 rfl (gnz (Or.inl rfl)) ⟨Nat.zero_le _, Nat.zero_le _⟩ ?_
      exact ⟨rfl, rfl, rfl⟩
-- ==== readsPair
theorem dX12_readsPair_0 : decode cX12_readsPair 0 = .ok (.aload_n 0, 1) := by decide +kernel
theorem dX12_readsPair_1 : decode cX12_readsPair 1 = .ok (.getfield 366, 3) := by decide +kernel
theorem dX12_readsPair_4 : decode cX12_readsPair 4 = .ok (.istore_n 2, 1) := by decide +kernel
theorem dX12_readsPair_5 : decode cX12_readsPair 5 = .ok (.aload_n 0, 1) := by decide +kernel
theorem dX12_readsPair_6 : decode cX12_readsPair 6 = .ok (.iload_n 1, 1) := by decide +kernel
theorem dX12_readsPair_7 : decode cX12_readsPair 7 = .ok (.invokevirtual 378, 3) := by decide +kernel
theorem dX12_readsPair_10 : decode cX12_readsPair 10 = .ok (.ifCond .ne 5, 3) := by decide +kernel
theorem dX12_readsPair_13 : decode cX12_readsPair 13 = .ok (.iconst 0, 1) := by decide +kernel
theorem dX12_readsPair_14 : decode cX12_readsPair 14 = .ok (.ireturn, 1) := by decide +kernel
theorem dX12_readsPair_15 : decode cX12_readsPair 15 = .ok (.aload_n 0, 1) := by decide +kernel
theorem dX12_readsPair_16 : decode cX12_readsPair 16 = .ok (.getfield 275, 3) := by decide +kernel
theorem dX12_readsPair_19 : decode cX12_readsPair 19 = .ok (.istore_n 3, 1) := by decide +kernel
theorem dX12_readsPair_20 : decode cX12_readsPair 20 = .ok (.aload_n 0, 1) := by decide +kernel
theorem dX12_readsPair_21 : decode cX12_readsPair 21 = .ok (.iload_n 1, 1) := by decide +kernel
theorem dX12_readsPair_22 : decode cX12_readsPair 22 = .ok (.iload_n 3, 1) := by decide +kernel
theorem dX12_readsPair_23 : decode cX12_readsPair 23 = .ok (.invokevirtual 381, 3) := by decide +kernel
theorem dX12_readsPair_26 : decode cX12_readsPair 26 = .ok (.ifCond .eq 11, 3) := by decide +kernel
theorem dX12_readsPair_29 : decode cX12_readsPair 29 = .ok (.aload_n 0, 1) := by decide +kernel
theorem dX12_readsPair_30 : decode cX12_readsPair 30 = .ok (.bipush 6, 2) := by decide +kernel
theorem dX12_readsPair_32 : decode cX12_readsPair 32 = .ok (.iload_n 2, 1) := by decide +kernel
theorem dX12_readsPair_33 : decode cX12_readsPair 33 = .ok (.invokevirtual 269, 3) := by decide +kernel
theorem dX12_readsPair_36 : decode cX12_readsPair 36 = .ok (.ireturn, 1) := by decide +kernel
theorem dX12_readsPair_37 : decode cX12_readsPair 37 = .ok (.aload_n 0, 1) := by decide +kernel
theorem dX12_readsPair_38 : decode cX12_readsPair 38 = .ok (.bipush 62, 2) := by decide +kernel
theorem dX12_readsPair_40 : decode cX12_readsPair 40 = .ok (.invokevirtual 297, 3) := by decide +kernel
theorem dX12_readsPair_43 : decode cX12_readsPair 43 = .ok (.ifCond .eq 28, 3) := by decide +kernel
theorem dX12_readsPair_46 : decode cX12_readsPair 46 = .ok (.aload_n 0, 1) := by decide +kernel
theorem dX12_readsPair_47 : decode cX12_readsPair 47 = .ok (.iload_n 1, 1) := by decide +kernel
theorem dX12_readsPair_48 : decode cX12_readsPair 48 = .ok (.invokevirtual 378, 3) := by decide +kernel
theorem dX12_readsPair_51 : decode cX12_readsPair 51 = .ok (.ifCond .eq 20, 3) := by decide +kernel
theorem dX12_readsPair_54 : decode cX12_readsPair 54 = .ok (.aload_n 0, 1) := by decide +kernel
theorem dX12_readsPair_55 : decode cX12_readsPair 55 = .ok (.iload_n 1, 1) := by decide +kernel
theorem dX12_readsPair_56 : decode cX12_readsPair 56 = .ok (.iload_n 3, 1) := by decide +kernel
theorem dX12_readsPair_57 : decode cX12_readsPair 57 = .ok (.aload_n 0, 1) := by decide +kernel
theorem dX12_readsPair_58 : decode cX12_readsPair 58 = .ok (.getfield 275, 3) := by decide +kernel
theorem dX12_readsPair_61 : decode cX12_readsPair 61 = .ok (.invokevirtual 384, 3) := by decide +kernel
theorem dX12_readsPair_64 : decode cX12_readsPair 64 = .ok (.ifCond .eq 7, 3) := by decide +kernel
theorem dX12_readsPair_67 : decode cX12_readsPair 67 = .ok (.iconst 1, 1) := by decide +kernel
theorem dX12_readsPair_68 : decode cX12_readsPair 68 = .ok (.goto 4, 3) := by decide +kernel
theorem dX12_readsPair_71 : decode cX12_readsPair 71 = .ok (.iconst 0, 1) := by decide +kernel
theorem dX12_readsPair_72 : decode cX12_readsPair 72 = .ok (.ireturn, 1) := by decide +kernel
noncomputable def F_readsPair (M : gM) (a1 : Int) : Option (Int × gM) := (Option.bind (F_readsFirst M a1) (fun p7 =>
    (if p7.1 = 0 then
      some (0, p7.2)
    else
      (Option.bind (F_isNamed p7.2 a1 (p7.2 711 22)) (fun r23 =>
        (if r23 = 0 then
          (Option.bind (F_takesSign p7.2 62) (fun p40 =>
            (if p40.1 = 0 then
              some (0, p40.2)
            else
              (Option.bind (F_readsFirst p40.2 a1) (fun p48 =>
                (if p48.1 = 0 then
                  some (0, p48.2)
                else
                  (Option.bind (F_adds p48.2 a1 (p7.2 711 22) (p48.2 711 22)) (fun p61 =>
                    (if p61.1 = 0 then
                      some (0, p61.2)
                    else
                      some (1, p61.2))))))))))
        else
          (Option.bind (F_wrongAt p7.2 6 (M 711 30)) (fun p33 =>
            some (p33.1, p33.2)))))))))
theorem eq_readsPair (M : gM) (a1 : Int) : F_readsPair M a1 = (Option.bind (F_readsFirst M a1) (fun p7 =>
    (if p7.1 = 0 then
      some (0, p7.2)
    else
      (Option.bind (F_isNamed p7.2 a1 (p7.2 711 22)) (fun r23 =>
        (if r23 = 0 then
          (Option.bind (F_takesSign p7.2 62) (fun p40 =>
            (if p40.1 = 0 then
              some (0, p40.2)
            else
              (Option.bind (F_readsFirst p40.2 a1) (fun p48 =>
                (if p48.1 = 0 then
                  some (0, p48.2)
                else
                  (Option.bind (F_adds p48.2 a1 (p7.2 711 22) (p48.2 711 22)) (fun p61 =>
                    (if p61.1 = 0 then
                      some (0, p61.2)
                    else
                      some (1, p61.2))))))))))
        else
          (Option.bind (F_wrongAt p7.2 6 (M 711 30)) (fun p33 =>
            some (p33.1, p33.2))))))))) := rfl
theorem fr_readsPair {M : gM} {a1 : Int} {b : Int × gM} (h : F_readsPair M a1 = some b) : gFr [729] [19, 21, 22, 23] M b.2 := by
  rw [eq_readsPair] at h
  obtain ⟨p7, e7, h⟩ := gI_bd h
  rcases gI_or h with h | h
  · rw [← Option.some.inj h]
    exact (gFr_t (gFr_r [729] [19, 21, 22, 23] _) (fr_readsFirst (b := p7) e7) (by first | decide | simp) (by decide))
  · obtain ⟨r23, e23, h⟩ := gI_bd h
    rcases gI_or h with h | h
    · obtain ⟨p40, e40, h⟩ := gI_bd h
      rcases gI_or h with h | h
      · rw [← Option.some.inj h]
        exact (gFr_t (gFr_t (gFr_r [729] [19, 21, 22, 23] _) (fr_readsFirst (b := p7) e7) (by first | decide | simp) (by decide)) (fr_takesSign (b := p40) e40) (by first | decide | simp) (by decide))
      · obtain ⟨p48, e48, h⟩ := gI_bd h
        rcases gI_or h with h | h
        · rw [← Option.some.inj h]
          exact (gFr_t (gFr_t (gFr_t (gFr_r [729] [19, 21, 22, 23] _) (fr_readsFirst (b := p7) e7) (by first | decide | simp) (by decide)) (fr_takesSign (b := p40) e40) (by first | decide | simp) (by decide)) (fr_readsFirst (b := p48) e48) (by first | decide | simp) (by decide))
        · obtain ⟨p61, e61, h⟩ := gI_bd h
          rcases gI_or h with h | h
          · rw [← Option.some.inj h]
            exact (gFr_t (gFr_t (gFr_t (gFr_t (gFr_r [729] [19, 21, 22, 23] _) (fr_readsFirst (b := p7) e7) (by first | decide | simp) (by decide)) (fr_takesSign (b := p40) e40) (by first | decide | simp) (by decide)) (fr_readsFirst (b := p48) e48) (by first | decide | simp) (by decide)) (fr_adds (b := p61) e61) (by first | decide | simp) (by decide))
          · rw [← Option.some.inj h]
            exact (gFr_t (gFr_t (gFr_t (gFr_t (gFr_r [729] [19, 21, 22, 23] _) (fr_readsFirst (b := p7) e7) (by first | decide | simp) (by decide)) (fr_takesSign (b := p40) e40) (by first | decide | simp) (by decide)) (fr_readsFirst (b := p48) e48) (by first | decide | simp) (by decide)) (fr_adds (b := p61) e61) (by first | decide | simp) (by decide))
    · obtain ⟨p33, e33, h⟩ := gI_bd h
      rw [← Option.some.inj h]
      exact (gFr_t (gFr_t (gFr_r [729] [19, 21, 22, 23] _) (fr_readsFirst (b := p7) e7) (by first | decide | simp) (by decide)) (fr_wrongAt (b := p33) e33) (by first | decide | simp) (by decide))
theorem bo_readsPair {M : gM} {a1 : Int} {b : Int × gM} (h : F_readsPair M a1 = some b) : b.1 = 0 ∨ b.1 = 1 := by
  rw [eq_readsPair] at h
  obtain ⟨p7, e7, h⟩ := gI_bd h
  rcases gI_or h with h | h
  · rw [← Option.some.inj h]
    exact (Or.inl rfl)
  · obtain ⟨r23, e23, h⟩ := gI_bd h
    rcases gI_or h with h | h
    · obtain ⟨p40, e40, h⟩ := gI_bd h
      rcases gI_or h with h | h
      · rw [← Option.some.inj h]
        exact (Or.inl rfl)
      · obtain ⟨p48, e48, h⟩ := gI_bd h
        rcases gI_or h with h | h
        · rw [← Option.some.inj h]
          exact (Or.inl rfl)
        · obtain ⟨p61, e61, h⟩ := gI_bd h
          rcases gI_or h with h | h
          · rw [← Option.some.inj h]
            exact (Or.inl rfl)
          · rw [← Option.some.inj h]
            exact (Or.inr rfl)
    · obtain ⟨p33, e33, h⟩ := gI_bd h
      rw [← Option.some.inj h]
      exact (bo_wrongAt (b := p33) e33)
theorem ok_readsPair {sh : gS} {M : gM} {a1 : Int} {b : Int × gM} (hOK : gOK sh M) (h : F_readsPair M a1 = some b) : gC (gr 5 105) yX12_readsPair cX12_readsPair 4 (some (.boolean)) [(4, 711), (0, a1)] sh M (gPq sh (some (0, b.1)) b.2) := by
  rw [eq_readsPair] at h
  refine gC_ofA (lv := [_, _, _, _]) (by decide +kernel) (Nat.le_of_ble_eq_true rfl) rfl (fun hMw hav => ?_)
  refine g_aload_n (q0 := 1) (j := 0) rfl dX12_readsPair_0 rfl ?_
  refine g_getf (q0 := 4) (t := 0) (fi := 30) rfl rfl ff_X12_366 dX12_readsPair_1 rfl (sh_711 hOK) ?_
  refine g_istore_n (q0 := 5) (j := 2) (lv2 := [_, _, _, _]) rfl dX12_readsPair_4 (by decide) rfl rfl ?_
  refine g_aload_n (q0 := 6) (j := 0) rfl dX12_readsPair_5 rfl ?_
  refine g_iload_n (q0 := 7) (j := 1) rfl dX12_readsPair_6 rfl ?_
  obtain ⟨p7, e7, h⟩ := gI_bd h
  refine g_callVq1 (as := [_]) (rest := []) mt_X12_readsFirst mi_X12_readsFirst se_X12_readsFirst ml_X12_378 dX12_readsPair_7 (q0 := 10) rfl rfl (sh_711 hOK) rfl rfl (ok_readsFirst hOK e7) rfl ⟨by decide, by decide⟩ (Nat.le_of_ble_eq_true rfl) ⟨Nat.zero_le _, Nat.zero_le _⟩ ?_
  have hOK1 : gOK sh p7.2 := gOK_fr hOK (fr_readsFirst (b := p7) e7) (by first | decide | (intro a ha; simp only [List.mem_cons, List.not_mem_nil, or_false] at ha; omega)) (by decide)
  refine g_if_ne (q0 := 13) (tgt := 15) rfl dX12_readsPair_10 (by decide) (fun h10 => ?_) (fun h10 => ?_)
  · replace h := gI_neg h10 h
    refine g_aload_n (q0 := 16) (j := 0) rfl dX12_readsPair_15 rfl ?_
    refine g_getf (q0 := 19) (t := 0) (fi := 22) rfl rfl ff_X12_275 dX12_readsPair_16 rfl (sh_711 hOK1) ?_
    refine g_istore_n (q0 := 20) (j := 3) (lv2 := [_, _, _, _]) rfl dX12_readsPair_19 (by decide) rfl rfl ?_
    refine g_aload_n (q0 := 21) (j := 0) rfl dX12_readsPair_20 rfl ?_
    refine g_iload_n (q0 := 22) (j := 1) rfl dX12_readsPair_21 rfl ?_
    refine g_iload_n (q0 := 23) (j := 3) rfl dX12_readsPair_22 rfl ?_
    obtain ⟨r23, e23, h⟩ := gI_bd h
    refine g_callVq1 (as := [_, _]) (rest := []) mt_X12_isNamed mi_X12_isNamed se_X12_isNamed ml_X12_381 dX12_readsPair_23 (q0 := 26) rfl rfl (sh_711 hOK1) rfl rfl (ok_isNamed hOK1 e23) rfl ⟨by decide, by decide⟩ (Nat.le_of_ble_eq_true rfl) ⟨Nat.zero_le _, Nat.zero_le _⟩ ?_
    refine g_if_eq (q0 := 29) (tgt := 37) rfl dX12_readsPair_26 (by decide) (fun h26 => ?_) (fun h26 => ?_)
    · replace h := gI_pos h26 h
      refine g_aload_n (q0 := 38) (j := 0) rfl dX12_readsPair_37 rfl ?_
      refine g_bipush (q0 := 40) rfl dX12_readsPair_38 (k := ?_)
      obtain ⟨p40, e40, h⟩ := gI_bd h
      refine g_callVq1 (as := [_]) (rest := []) mt_X12_takesSign mi_X12_takesSign se_X12_takesSign ml_X12_297 dX12_readsPair_40 (q0 := 43) rfl rfl (sh_711 hOK1) rfl rfl (ok_takesSign hOK1 e40) rfl ⟨by decide, by decide⟩ (Nat.le_of_ble_eq_true rfl) ⟨Nat.zero_le _, Nat.zero_le _⟩ ?_
      have hOK2 : gOK sh p40.2 := gOK_fr hOK1 (fr_takesSign (b := p40) e40) (by first | decide | (intro a ha; simp only [List.mem_cons, List.not_mem_nil, or_false] at ha; omega)) (by decide)
      refine g_if_eq (q0 := 46) (tgt := 71) rfl dX12_readsPair_43 (by decide) (fun h43 => ?_) (fun h43 => ?_)
      · replace h := gI_pos h43 h
        refine g_iconst (q0 := 72) rfl dX12_readsPair_71 (k := ?_)
        rw [← Option.some.inj h]
        refine g_zreturn dX12_readsPair_72 rfl (gnz (Or.inl rfl)) ⟨Nat.zero_le _, Nat.zero_le _⟩ ?_
        exact ⟨rfl, rfl, rfl⟩
      · replace h := gI_neg h43 h
        refine g_aload_n (q0 := 47) (j := 0) rfl dX12_readsPair_46 rfl ?_
        refine g_iload_n (q0 := 48) (j := 1) rfl dX12_readsPair_47 rfl ?_
        obtain ⟨p48, e48, h⟩ := gI_bd h
        refine g_callVq1 (as := [_]) (rest := []) mt_X12_readsFirst mi_X12_readsFirst se_X12_readsFirst ml_X12_378 dX12_readsPair_48 (q0 := 51) rfl rfl (sh_711 hOK2) rfl rfl (ok_readsFirst hOK2 e48) rfl ⟨by decide, by decide⟩ (Nat.le_of_ble_eq_true rfl) ⟨Nat.zero_le _, Nat.zero_le _⟩ ?_
        have hOK3 : gOK sh p48.2 := gOK_fr hOK2 (fr_readsFirst (b := p48) e48) (by first | decide | (intro a ha; simp only [List.mem_cons, List.not_mem_nil, or_false] at ha; omega)) (by decide)
        refine g_if_eq (q0 := 54) (tgt := 71) rfl dX12_readsPair_51 (by decide) (fun h51 => ?_) (fun h51 => ?_)
        · replace h := gI_pos h51 h
          refine g_iconst (q0 := 72) rfl dX12_readsPair_71 (k := ?_)
          rw [← Option.some.inj h]
          refine g_zreturn dX12_readsPair_72 rfl (gnz (Or.inl rfl)) ⟨Nat.zero_le _, Nat.zero_le _⟩ ?_
          exact ⟨rfl, rfl, rfl⟩
        · replace h := gI_neg h51 h
          refine g_aload_n (q0 := 55) (j := 0) rfl dX12_readsPair_54 rfl ?_
          refine g_iload_n (q0 := 56) (j := 1) rfl dX12_readsPair_55 rfl ?_
          refine g_iload_n (q0 := 57) (j := 3) rfl dX12_readsPair_56 rfl ?_
          refine g_aload_n (q0 := 58) (j := 0) rfl dX12_readsPair_57 rfl ?_
          refine g_getf (q0 := 61) (t := 0) (fi := 22) rfl rfl ff_X12_275 dX12_readsPair_58 rfl (sh_711 hOK3) ?_
          obtain ⟨p61, e61, h⟩ := gI_bd h
          refine g_callVq1 (as := [_, _, _]) (rest := []) mt_X12_adds mi_X12_adds se_X12_adds ml_X12_384 dX12_readsPair_61 (q0 := 64) rfl rfl (sh_711 hOK3) rfl rfl (ok_adds hOK3 e61) rfl ⟨by decide, by decide⟩ (Nat.le_of_ble_eq_true rfl) ⟨Nat.zero_le _, Nat.zero_le _⟩ ?_
          have hOK4 : gOK sh p61.2 := gOK_fr hOK3 (fr_adds (b := p61) e61) (by first | decide | (intro a ha; simp only [List.mem_cons, List.not_mem_nil, or_false] at ha; omega)) (by decide)
          refine g_if_eq (q0 := 67) (tgt := 71) rfl dX12_readsPair_64 (by decide) (fun h64 => ?_) (fun h64 => ?_)
          · replace h := gI_pos h64 h
            refine g_iconst (q0 := 72) rfl dX12_readsPair_71 (k := ?_)
            rw [← Option.some.inj h]
            refine g_zreturn dX12_readsPair_72 rfl (gnz (Or.inl rfl)) ⟨Nat.zero_le _, Nat.zero_le _⟩ ?_
            exact ⟨rfl, rfl, rfl⟩
          · replace h := gI_neg h64 h
            refine g_iconst (q0 := 68) rfl dX12_readsPair_67 (k := ?_)
            refine g_goto (tgt := 72) dX12_readsPair_68 (by decide) ?_
            rw [← Option.some.inj h]
            refine g_zreturn dX12_readsPair_72 rfl (gnz (Or.inr rfl)) ⟨Nat.zero_le _, Nat.zero_le _⟩ ?_
            exact ⟨rfl, rfl, rfl⟩
    · replace h := gI_neg h26 h
      refine g_aload_n (q0 := 30) (j := 0) rfl dX12_readsPair_29 rfl ?_
      refine g_bipush (q0 := 32) rfl dX12_readsPair_30 (k := ?_)
      refine g_iload_n (q0 := 33) (j := 2) rfl dX12_readsPair_32 rfl ?_
      obtain ⟨p33, e33, h⟩ := gI_bd h
      refine g_callVq1 (as := [_, _]) (rest := []) mt_X12_wrongAt mi_X12_wrongAt se_X12_wrongAt ml_X12_269 dX12_readsPair_33 (q0 := 36) rfl rfl (sh_711 hOK1) rfl rfl (ok_wrongAt hOK1 e33) rfl ⟨by decide, by decide⟩ (Nat.le_of_ble_eq_true rfl) ⟨Nat.zero_le _, Nat.zero_le _⟩ ?_
      have hOK5 : gOK sh p33.2 := gOK_fr hOK1 (fr_wrongAt (b := p33) e33) (by first | decide | (intro a ha; simp only [List.mem_cons, List.not_mem_nil, or_false] at ha; omega)) (by decide)
      rw [← Option.some.inj h]
      refine g_zreturn dX12_readsPair_36 rfl (gnz (bo_wrongAt (b := p33) e33)) ⟨Nat.zero_le _, Nat.zero_le _⟩ ?_
      exact ⟨rfl, rfl, rfl⟩
  · replace h := gI_pos h10 h
    refine g_iconst (q0 := 14) rfl dX12_readsPair_13 (k := ?_)
    rw [← Option.some.inj h]
    refine g_zreturn dX12_readsPair_14 rfl (gnz (Or.inl rfl)) ⟨Nat.zero_le _, Nat.zero_le _⟩ ?_
    exact ⟨rfl, rfl, rfl⟩
-- ==== readsGraft
theorem dX12_readsGraft_0 : decode cX12_readsGraft 0 = .ok (.aload_n 0, 1) := by decide +kernel
theorem dX12_readsGraft_1 : decode cX12_readsGraft 1 = .ok (.getfield 366, 3) := by decide +kernel
theorem dX12_readsGraft_4 : decode cX12_readsGraft 4 = .ok (.istore_n 1, 1) := by decide +kernel
theorem dX12_readsGraft_5 : decode cX12_readsGraft 5 = .ok (.aload_n 0, 1) := by decide +kernel
theorem dX12_readsGraft_6 : decode cX12_readsGraft 6 = .ok (.getfield 256, 3) := by decide +kernel
theorem dX12_readsGraft_9 : decode cX12_readsGraft 9 = .ok (.istore_n 2, 1) := by decide +kernel
theorem dX12_readsGraft_10 : decode cX12_readsGraft 10 = .ok (.aload_n 0, 1) := by decide +kernel
theorem dX12_readsGraft_11 : decode cX12_readsGraft 11 = .ok (.invokevirtual 284, 3) := by decide +kernel
theorem dX12_readsGraft_14 : decode cX12_readsGraft 14 = .ok (.ifCond .ne 5, 3) := by decide +kernel
theorem dX12_readsGraft_17 : decode cX12_readsGraft 17 = .ok (.iconst 0, 1) := by decide +kernel
theorem dX12_readsGraft_18 : decode cX12_readsGraft 18 = .ok (.ireturn, 1) := by decide +kernel
theorem dX12_readsGraft_19 : decode cX12_readsGraft 19 = .ok (.aload_n 0, 1) := by decide +kernel
theorem dX12_readsGraft_20 : decode cX12_readsGraft 20 = .ok (.getfield 275, 3) := by decide +kernel
theorem dX12_readsGraft_23 : decode cX12_readsGraft 23 = .ok (.istore_n 3, 1) := by decide +kernel
theorem dX12_readsGraft_24 : decode cX12_readsGraft 24 = .ok (.aload_n 0, 1) := by decide +kernel
theorem dX12_readsGraft_25 : decode cX12_readsGraft 25 = .ok (.iload_n 3, 1) := by decide +kernel
theorem dX12_readsGraft_26 : decode cX12_readsGraft 26 = .ok (.invokevirtual 229, 3) := by decide +kernel
theorem dX12_readsGraft_29 : decode cX12_readsGraft 29 = .ok (.ifCond .ne 11, 3) := by decide +kernel
theorem dX12_readsGraft_32 : decode cX12_readsGraft 32 = .ok (.aload_n 0, 1) := by decide +kernel
theorem dX12_readsGraft_33 : decode cX12_readsGraft 33 = .ok (.bipush 9, 2) := by decide +kernel
theorem dX12_readsGraft_35 : decode cX12_readsGraft 35 = .ok (.iload_n 2, 1) := by decide +kernel
theorem dX12_readsGraft_36 : decode cX12_readsGraft 36 = .ok (.invokevirtual 269, 3) := by decide +kernel
theorem dX12_readsGraft_39 : decode cX12_readsGraft 39 = .ok (.ireturn, 1) := by decide +kernel
theorem dX12_readsGraft_40 : decode cX12_readsGraft 40 = .ok (.aload_n 0, 1) := by decide +kernel
theorem dX12_readsGraft_41 : decode cX12_readsGraft 41 = .ok (.bipush 6, 2) := by decide +kernel
theorem dX12_readsGraft_43 : decode cX12_readsGraft 43 = .ok (.iload_n 3, 1) := by decide +kernel
theorem dX12_readsGraft_44 : decode cX12_readsGraft 44 = .ok (.invokevirtual 381, 3) := by decide +kernel
theorem dX12_readsGraft_47 : decode cX12_readsGraft 47 = .ok (.ifCond .eq 11, 3) := by decide +kernel
theorem dX12_readsGraft_50 : decode cX12_readsGraft 50 = .ok (.aload_n 0, 1) := by decide +kernel
theorem dX12_readsGraft_51 : decode cX12_readsGraft 51 = .ok (.bipush 6, 2) := by decide +kernel
theorem dX12_readsGraft_53 : decode cX12_readsGraft 53 = .ok (.iload_n 1, 1) := by decide +kernel
theorem dX12_readsGraft_54 : decode cX12_readsGraft 54 = .ok (.invokevirtual 269, 3) := by decide +kernel
theorem dX12_readsGraft_57 : decode cX12_readsGraft 57 = .ok (.ireturn, 1) := by decide +kernel
theorem dX12_readsGraft_58 : decode cX12_readsGraft 58 = .ok (.aload_n 0, 1) := by decide +kernel
theorem dX12_readsGraft_59 : decode cX12_readsGraft 59 = .ok (.bipush 62, 2) := by decide +kernel
theorem dX12_readsGraft_61 : decode cX12_readsGraft 61 = .ok (.invokevirtual 297, 3) := by decide +kernel
theorem dX12_readsGraft_64 : decode cX12_readsGraft 64 = .ok (.ifCond .ne 5, 3) := by decide +kernel
theorem dX12_readsGraft_67 : decode cX12_readsGraft 67 = .ok (.iconst 0, 1) := by decide +kernel
theorem dX12_readsGraft_68 : decode cX12_readsGraft 68 = .ok (.ireturn, 1) := by decide +kernel
theorem dX12_readsGraft_69 : decode cX12_readsGraft 69 = .ok (.aload_n 0, 1) := by decide +kernel
theorem dX12_readsGraft_70 : decode cX12_readsGraft 70 = .ok (.invokevirtual 265, 3) := by decide +kernel
theorem dX12_readsGraft_73 : decode cX12_readsGraft 73 = .ok (.bipush 46, 2) := by decide +kernel
theorem dX12_readsGraft_75 : decode cX12_readsGraft 75 = .ok (.if_icmp .ne 22, 3) := by decide +kernel
theorem dX12_readsGraft_78 : decode cX12_readsGraft 78 = .ok (.aload_n 0, 1) := by decide +kernel
theorem dX12_readsGraft_79 : decode cX12_readsGraft 79 = .ok (.aload_n 0, 1) := by decide +kernel
theorem dX12_readsGraft_80 : decode cX12_readsGraft 80 = .ok (.getfield 256, 3) := by decide +kernel
theorem dX12_readsGraft_83 : decode cX12_readsGraft 83 = .ok (.iconst 1, 1) := by decide +kernel
theorem dX12_readsGraft_84 : decode cX12_readsGraft 84 = .ok (.iadd, 1) := by decide +kernel
theorem dX12_readsGraft_85 : decode cX12_readsGraft 85 = .ok (.putfield 256, 3) := by decide +kernel
theorem dX12_readsGraft_88 : decode cX12_readsGraft 88 = .ok (.aload_n 0, 1) := by decide +kernel
theorem dX12_readsGraft_89 : decode cX12_readsGraft 89 = .ok (.bipush 6, 2) := by decide +kernel
theorem dX12_readsGraft_91 : decode cX12_readsGraft 91 = .ok (.iload_n 3, 1) := by decide +kernel
theorem dX12_readsGraft_92 : decode cX12_readsGraft 92 = .ok (.iconst (-1), 1) := by decide +kernel
theorem dX12_readsGraft_93 : decode cX12_readsGraft 93 = .ok (.invokevirtual 384, 3) := by decide +kernel
theorem dX12_readsGraft_96 : decode cX12_readsGraft 96 = .ok (.ireturn, 1) := by decide +kernel
theorem dX12_readsGraft_97 : decode cX12_readsGraft 97 = .ok (.aload_n 0, 1) := by decide +kernel
theorem dX12_readsGraft_98 : decode cX12_readsGraft 98 = .ok (.getfield 256, 3) := by decide +kernel
theorem dX12_readsGraft_101 : decode cX12_readsGraft 101 = .ok (.istore_n 2, 1) := by decide +kernel
theorem dX12_readsGraft_102 : decode cX12_readsGraft 102 = .ok (.aload_n 0, 1) := by decide +kernel
theorem dX12_readsGraft_103 : decode cX12_readsGraft 103 = .ok (.invokevirtual 284, 3) := by decide +kernel
theorem dX12_readsGraft_106 : decode cX12_readsGraft 106 = .ok (.ifCond .ne 5, 3) := by decide +kernel
theorem dX12_readsGraft_109 : decode cX12_readsGraft 109 = .ok (.iconst 0, 1) := by decide +kernel
theorem dX12_readsGraft_110 : decode cX12_readsGraft 110 = .ok (.ireturn, 1) := by decide +kernel
theorem dX12_readsGraft_111 : decode cX12_readsGraft 111 = .ok (.aload_n 0, 1) := by decide +kernel
theorem dX12_readsGraft_112 : decode cX12_readsGraft 112 = .ok (.aload_n 0, 1) := by decide +kernel
theorem dX12_readsGraft_113 : decode cX12_readsGraft 113 = .ok (.getfield 275, 3) := by decide +kernel
theorem dX12_readsGraft_116 : decode cX12_readsGraft 116 = .ok (.invokevirtual 229, 3) := by decide +kernel
theorem dX12_readsGraft_119 : decode cX12_readsGraft 119 = .ok (.ifCond .ne 11, 3) := by decide +kernel
theorem dX12_readsGraft_122 : decode cX12_readsGraft 122 = .ok (.aload_n 0, 1) := by decide +kernel
theorem dX12_readsGraft_123 : decode cX12_readsGraft 123 = .ok (.bipush 9, 2) := by decide +kernel
theorem dX12_readsGraft_125 : decode cX12_readsGraft 125 = .ok (.iload_n 2, 1) := by decide +kernel
theorem dX12_readsGraft_126 : decode cX12_readsGraft 126 = .ok (.invokevirtual 269, 3) := by decide +kernel
theorem dX12_readsGraft_129 : decode cX12_readsGraft 129 = .ok (.ireturn, 1) := by decide +kernel
theorem dX12_readsGraft_130 : decode cX12_readsGraft 130 = .ok (.aload_n 0, 1) := by decide +kernel
theorem dX12_readsGraft_131 : decode cX12_readsGraft 131 = .ok (.getfield 275, 3) := by decide +kernel
theorem dX12_readsGraft_134 : decode cX12_readsGraft 134 = .ok (.iload_n 3, 1) := by decide +kernel
theorem dX12_readsGraft_135 : decode cX12_readsGraft 135 = .ok (.if_icmp .lt 11, 3) := by decide +kernel
theorem dX12_readsGraft_138 : decode cX12_readsGraft 138 = .ok (.aload_n 0, 1) := by decide +kernel
theorem dX12_readsGraft_139 : decode cX12_readsGraft 139 = .ok (.bipush 7, 2) := by decide +kernel
theorem dX12_readsGraft_141 : decode cX12_readsGraft 141 = .ok (.iload_n 2, 1) := by decide +kernel
theorem dX12_readsGraft_142 : decode cX12_readsGraft 142 = .ok (.invokevirtual 269, 3) := by decide +kernel
theorem dX12_readsGraft_145 : decode cX12_readsGraft 145 = .ok (.ireturn, 1) := by decide +kernel
theorem dX12_readsGraft_146 : decode cX12_readsGraft 146 = .ok (.aload_n 0, 1) := by decide +kernel
theorem dX12_readsGraft_147 : decode cX12_readsGraft 147 = .ok (.bipush 6, 2) := by decide +kernel
theorem dX12_readsGraft_149 : decode cX12_readsGraft 149 = .ok (.iload_n 3, 1) := by decide +kernel
theorem dX12_readsGraft_150 : decode cX12_readsGraft 150 = .ok (.aload_n 0, 1) := by decide +kernel
theorem dX12_readsGraft_151 : decode cX12_readsGraft 151 = .ok (.getfield 275, 3) := by decide +kernel
theorem dX12_readsGraft_154 : decode cX12_readsGraft 154 = .ok (.invokevirtual 384, 3) := by decide +kernel
theorem dX12_readsGraft_157 : decode cX12_readsGraft 157 = .ok (.ireturn, 1) := by decide +kernel
noncomputable def F_readsGraft (M : gM) : Option (Int × gM) := (Option.bind (F_readsNumber M) (fun p11 =>
    (if p11.1 = 0 then
      some (0, p11.2)
    else
      (Option.bind (F_isCommit p11.2 (p11.2 711 22)) (fun r26 =>
        (if r26 = 0 then
          (Option.bind (F_wrongAt p11.2 9 (M 711 19)) (fun p36 =>
            some (p36.1, p36.2)))
        else
          (Option.bind (F_isNamed p11.2 6 (p11.2 711 22)) (fun r44 =>
            (if r44 = 0 then
              (Option.bind (F_takesSign p11.2 62) (fun p61 =>
                (if p61.1 = 0 then
                  some (0, p61.2)
                else
                  (Option.bind (F_here p61.2) (fun r70 =>
                    (if r70 = 46 then
                      (Option.bind (F_adds (gU p61.2 711 19 (gw32 ((p61.2 711 19) + (1 : Int)))) 6 (p11.2 711 22) (-1)) (fun p93 =>
                        some (p93.1, p93.2)))
                    else
                      (Option.bind (F_readsNumber p61.2) (fun p103 =>
                        (if p103.1 = 0 then
                          some (0, p103.2)
                        else
                          (Option.bind (F_isCommit p103.2 (p103.2 711 22)) (fun r116 =>
                            (if r116 = 0 then
                              (Option.bind (F_wrongAt p103.2 9 (p61.2 711 19)) (fun p126 =>
                                some (p126.1, p126.2)))
                            else
                              (if (p103.2 711 22) < (p11.2 711 22) then
                                (Option.bind (F_adds p103.2 6 (p11.2 711 22) (p103.2 711 22)) (fun p154 =>
                                  some (p154.1, p154.2)))
                              else
                                (Option.bind (F_wrongAt p103.2 7 (p61.2 711 19)) (fun p142 =>
                                  some (p142.1, p142.2))))))))))))))))
            else
              (Option.bind (F_wrongAt p11.2 6 (M 711 30)) (fun p54 =>
                some (p54.1, p54.2))))))))))))
theorem eq_readsGraft (M : gM) : F_readsGraft M = (Option.bind (F_readsNumber M) (fun p11 =>
    (if p11.1 = 0 then
      some (0, p11.2)
    else
      (Option.bind (F_isCommit p11.2 (p11.2 711 22)) (fun r26 =>
        (if r26 = 0 then
          (Option.bind (F_wrongAt p11.2 9 (M 711 19)) (fun p36 =>
            some (p36.1, p36.2)))
        else
          (Option.bind (F_isNamed p11.2 6 (p11.2 711 22)) (fun r44 =>
            (if r44 = 0 then
              (Option.bind (F_takesSign p11.2 62) (fun p61 =>
                (if p61.1 = 0 then
                  some (0, p61.2)
                else
                  (Option.bind (F_here p61.2) (fun r70 =>
                    (if r70 = 46 then
                      (Option.bind (F_adds (gU p61.2 711 19 (gw32 ((p61.2 711 19) + (1 : Int)))) 6 (p11.2 711 22) (-1)) (fun p93 =>
                        some (p93.1, p93.2)))
                    else
                      (Option.bind (F_readsNumber p61.2) (fun p103 =>
                        (if p103.1 = 0 then
                          some (0, p103.2)
                        else
                          (Option.bind (F_isCommit p103.2 (p103.2 711 22)) (fun r116 =>
                            (if r116 = 0 then
                              (Option.bind (F_wrongAt p103.2 9 (p61.2 711 19)) (fun p126 =>
                                some (p126.1, p126.2)))
                            else
                              (if (p103.2 711 22) < (p11.2 711 22) then
                                (Option.bind (F_adds p103.2 6 (p11.2 711 22) (p103.2 711 22)) (fun p154 =>
                                  some (p154.1, p154.2)))
                              else
                                (Option.bind (F_wrongAt p103.2 7 (p61.2 711 19)) (fun p142 =>
                                  some (p142.1, p142.2))))))))))))))))
            else
              (Option.bind (F_wrongAt p11.2 6 (M 711 30)) (fun p54 =>
                some (p54.1, p54.2)))))))))))) := rfl
theorem fr_readsGraft {M : gM} {b : Int × gM} (h : F_readsGraft M = some b) : gFr [729] [19, 21, 22] M b.2 := by
  rw [eq_readsGraft] at h
  obtain ⟨p11, e11, h⟩ := gI_bd h
  rcases gI_or h with h | h
  · rw [← Option.some.inj h]
    exact (gFr_t (gFr_r [729] [19, 21, 22] _) (fr_readsNumber (b := p11) e11) (by first | decide | simp) (by decide))
  · obtain ⟨r26, e26, h⟩ := gI_bd h
    rcases gI_or h with h | h
    · obtain ⟨p36, e36, h⟩ := gI_bd h
      rw [← Option.some.inj h]
      exact (gFr_t (gFr_t (gFr_r [729] [19, 21, 22] _) (fr_readsNumber (b := p11) e11) (by first | decide | simp) (by decide)) (fr_wrongAt (b := p36) e36) (by first | decide | simp) (by decide))
    · obtain ⟨r44, e44, h⟩ := gI_bd h
      rcases gI_or h with h | h
      · obtain ⟨p61, e61, h⟩ := gI_bd h
        rcases gI_or h with h | h
        · rw [← Option.some.inj h]
          exact (gFr_t (gFr_t (gFr_r [729] [19, 21, 22] _) (fr_readsNumber (b := p11) e11) (by first | decide | simp) (by decide)) (fr_takesSign (b := p61) e61) (by first | decide | simp) (by decide))
        · obtain ⟨r70, e70, h⟩ := gI_bd h
          rcases gI_or h with h | h
          · obtain ⟨p93, e93, h⟩ := gI_bd h
            rw [← Option.some.inj h]
            exact (gFr_t (gFr_f (gFr_t (gFr_t (gFr_r [729] [19, 21, 22] _) (fr_readsNumber (b := p11) e11) (by first | decide | simp) (by decide)) (fr_takesSign (b := p61) e61) (by first | decide | simp) (by decide)) (.head _)) (fr_adds (b := p93) e93) (by first | decide | simp) (by decide))
          · obtain ⟨p103, e103, h⟩ := gI_bd h
            rcases gI_or h with h | h
            · rw [← Option.some.inj h]
              exact (gFr_t (gFr_t (gFr_t (gFr_r [729] [19, 21, 22] _) (fr_readsNumber (b := p11) e11) (by first | decide | simp) (by decide)) (fr_takesSign (b := p61) e61) (by first | decide | simp) (by decide)) (fr_readsNumber (b := p103) e103) (by first | decide | simp) (by decide))
            · obtain ⟨r116, e116, h⟩ := gI_bd h
              rcases gI_or h with h | h
              · obtain ⟨p126, e126, h⟩ := gI_bd h
                rw [← Option.some.inj h]
                exact (gFr_t (gFr_t (gFr_t (gFr_t (gFr_r [729] [19, 21, 22] _) (fr_readsNumber (b := p11) e11) (by first | decide | simp) (by decide)) (fr_takesSign (b := p61) e61) (by first | decide | simp) (by decide)) (fr_readsNumber (b := p103) e103) (by first | decide | simp) (by decide)) (fr_wrongAt (b := p126) e126) (by first | decide | simp) (by decide))
              · rcases gI_or h with h | h
                · obtain ⟨p154, e154, h⟩ := gI_bd h
                  rw [← Option.some.inj h]
                  exact (gFr_t (gFr_t (gFr_t (gFr_t (gFr_r [729] [19, 21, 22] _) (fr_readsNumber (b := p11) e11) (by first | decide | simp) (by decide)) (fr_takesSign (b := p61) e61) (by first | decide | simp) (by decide)) (fr_readsNumber (b := p103) e103) (by first | decide | simp) (by decide)) (fr_adds (b := p154) e154) (by first | decide | simp) (by decide))
                · obtain ⟨p142, e142, h⟩ := gI_bd h
                  rw [← Option.some.inj h]
                  exact (gFr_t (gFr_t (gFr_t (gFr_t (gFr_r [729] [19, 21, 22] _) (fr_readsNumber (b := p11) e11) (by first | decide | simp) (by decide)) (fr_takesSign (b := p61) e61) (by first | decide | simp) (by decide)) (fr_readsNumber (b := p103) e103) (by first | decide | simp) (by decide)) (fr_wrongAt (b := p142) e142) (by first | decide | simp) (by decide))
      · obtain ⟨p54, e54, h⟩ := gI_bd h
        rw [← Option.some.inj h]
        exact (gFr_t (gFr_t (gFr_r [729] [19, 21, 22] _) (fr_readsNumber (b := p11) e11) (by first | decide | simp) (by decide)) (fr_wrongAt (b := p54) e54) (by first | decide | simp) (by decide))
theorem bo_readsGraft {M : gM} {b : Int × gM} (h : F_readsGraft M = some b) : b.1 = 0 ∨ b.1 = 1 := by
  rw [eq_readsGraft] at h
  obtain ⟨p11, e11, h⟩ := gI_bd h
  rcases gI_or h with h | h
  · rw [← Option.some.inj h]
    exact (Or.inl rfl)
  · obtain ⟨r26, e26, h⟩ := gI_bd h
    rcases gI_or h with h | h
    · obtain ⟨p36, e36, h⟩ := gI_bd h
      rw [← Option.some.inj h]
      exact (bo_wrongAt (b := p36) e36)
    · obtain ⟨r44, e44, h⟩ := gI_bd h
      rcases gI_or h with h | h
      · obtain ⟨p61, e61, h⟩ := gI_bd h
        rcases gI_or h with h | h
        · rw [← Option.some.inj h]
          exact (Or.inl rfl)
        · obtain ⟨r70, e70, h⟩ := gI_bd h
          rcases gI_or h with h | h
          · obtain ⟨p93, e93, h⟩ := gI_bd h
            rw [← Option.some.inj h]
            exact (bo_adds (b := p93) e93)
          · obtain ⟨p103, e103, h⟩ := gI_bd h
            rcases gI_or h with h | h
            · rw [← Option.some.inj h]
              exact (Or.inl rfl)
            · obtain ⟨r116, e116, h⟩ := gI_bd h
              rcases gI_or h with h | h
              · obtain ⟨p126, e126, h⟩ := gI_bd h
                rw [← Option.some.inj h]
                exact (bo_wrongAt (b := p126) e126)
              · rcases gI_or h with h | h
                · obtain ⟨p154, e154, h⟩ := gI_bd h
                  rw [← Option.some.inj h]
                  exact (bo_adds (b := p154) e154)
                · obtain ⟨p142, e142, h⟩ := gI_bd h
                  rw [← Option.some.inj h]
                  exact (bo_wrongAt (b := p142) e142)
      · obtain ⟨p54, e54, h⟩ := gI_bd h
        rw [← Option.some.inj h]
        exact (bo_wrongAt (b := p54) e54)
theorem ok_readsGraft {sh : gS} {M : gM} {b : Int × gM} (hOK : gOK sh M) (h : F_readsGraft M = some b) : gC (gr 3 63) yX12_readsGraft cX12_readsGraft 4 (some (.boolean)) [(4, 711)] sh M (gPq sh (some (0, b.1)) b.2) := by
  rw [eq_readsGraft] at h
  refine gC_ofA (lv := [_, _, _, _]) (by decide +kernel) (Nat.le_of_ble_eq_true rfl) rfl (fun hMw hav => ?_)
  refine g_aload_n (q0 := 1) (j := 0) rfl dX12_readsGraft_0 rfl ?_
  refine g_getf (q0 := 4) (t := 0) (fi := 30) rfl rfl ff_X12_366 dX12_readsGraft_1 rfl (sh_711 hOK) ?_
  refine g_istore_n (q0 := 5) (j := 1) (lv2 := [_, _, _, _]) rfl dX12_readsGraft_4 (by decide) rfl rfl ?_
  refine g_aload_n (q0 := 6) (j := 0) rfl dX12_readsGraft_5 rfl ?_
  refine g_getf (q0 := 9) (t := 0) (fi := 19) rfl rfl ff_X12_256 dX12_readsGraft_6 rfl (sh_711 hOK) ?_
  refine g_istore_n (q0 := 10) (j := 2) (lv2 := [_, _, _, _]) rfl dX12_readsGraft_9 (by decide) rfl rfl ?_
  refine g_aload_n (q0 := 11) (j := 0) rfl dX12_readsGraft_10 rfl ?_
  obtain ⟨p11, e11, h⟩ := gI_bd h
  refine g_callVq1 (as := []) (rest := []) mt_X12_readsNumber mi_X12_readsNumber se_X12_readsNumber ml_X12_284 dX12_readsGraft_11 (q0 := 14) rfl rfl (sh_711 hOK) rfl rfl (ok_readsNumber hOK e11) rfl ⟨by decide, by decide⟩ (Nat.le_of_ble_eq_true rfl) ⟨Nat.zero_le _, Nat.zero_le _⟩ ?_
  have hOK1 : gOK sh p11.2 := gOK_fr hOK (fr_readsNumber (b := p11) e11) (by first | decide | (intro a ha; simp only [List.mem_cons, List.not_mem_nil, or_false] at ha; omega)) (by decide)
  refine g_if_ne (q0 := 17) (tgt := 19) rfl dX12_readsGraft_14 (by decide) (fun h14 => ?_) (fun h14 => ?_)
  · replace h := gI_neg h14 h
    refine g_aload_n (q0 := 20) (j := 0) rfl dX12_readsGraft_19 rfl ?_
    refine g_getf (q0 := 23) (t := 0) (fi := 22) rfl rfl ff_X12_275 dX12_readsGraft_20 rfl (sh_711 hOK1) ?_
    refine g_istore_n (q0 := 24) (j := 3) (lv2 := [_, _, _, _]) rfl dX12_readsGraft_23 (by decide) rfl rfl ?_
    refine g_aload_n (q0 := 25) (j := 0) rfl dX12_readsGraft_24 rfl ?_
    refine g_iload_n (q0 := 26) (j := 3) rfl dX12_readsGraft_25 rfl ?_
    obtain ⟨r26, e26, h⟩ := gI_bd h
    refine g_callVq1 (as := [_]) (rest := []) mt_X12_isCommit mi_X12_isCommit se_X12_isCommit ml_X12_229 dX12_readsGraft_26 (q0 := 29) rfl rfl (sh_711 hOK1) rfl rfl (ok_isCommit hOK1 e26) rfl ⟨by decide, by decide⟩ (Nat.le_of_ble_eq_true rfl) ⟨Nat.zero_le _, Nat.zero_le _⟩ ?_
    refine g_if_ne (q0 := 32) (tgt := 40) rfl dX12_readsGraft_29 (by decide) (fun h29 => ?_) (fun h29 => ?_)
    · replace h := gI_neg h29 h
      refine g_aload_n (q0 := 41) (j := 0) rfl dX12_readsGraft_40 rfl ?_
      refine g_bipush (q0 := 43) rfl dX12_readsGraft_41 (k := ?_)
      refine g_iload_n (q0 := 44) (j := 3) rfl dX12_readsGraft_43 rfl ?_
      obtain ⟨r44, e44, h⟩ := gI_bd h
      refine g_callVq1 (as := [_, _]) (rest := []) mt_X12_isNamed mi_X12_isNamed se_X12_isNamed ml_X12_381 dX12_readsGraft_44 (q0 := 47) rfl rfl (sh_711 hOK1) rfl rfl (ok_isNamed hOK1 e44) rfl ⟨by decide, by decide⟩ (Nat.le_of_ble_eq_true rfl) ⟨Nat.zero_le _, Nat.zero_le _⟩ ?_
      refine g_if_eq (q0 := 50) (tgt := 58) rfl dX12_readsGraft_47 (by decide) (fun h47 => ?_) (fun h47 => ?_)
      · replace h := gI_pos h47 h
        refine g_aload_n (q0 := 59) (j := 0) rfl dX12_readsGraft_58 rfl ?_
        refine g_bipush (q0 := 61) rfl dX12_readsGraft_59 (k := ?_)
        obtain ⟨p61, e61, h⟩ := gI_bd h
        refine g_callVq1 (as := [_]) (rest := []) mt_X12_takesSign mi_X12_takesSign se_X12_takesSign ml_X12_297 dX12_readsGraft_61 (q0 := 64) rfl rfl (sh_711 hOK1) rfl rfl (ok_takesSign hOK1 e61) rfl ⟨by decide, by decide⟩ (Nat.le_of_ble_eq_true rfl) ⟨Nat.zero_le _, Nat.zero_le _⟩ ?_
        have hOK2 : gOK sh p61.2 := gOK_fr hOK1 (fr_takesSign (b := p61) e61) (by first | decide | (intro a ha; simp only [List.mem_cons, List.not_mem_nil, or_false] at ha; omega)) (by decide)
        refine g_if_ne (q0 := 67) (tgt := 69) rfl dX12_readsGraft_64 (by decide) (fun h64 => ?_) (fun h64 => ?_)
        · replace h := gI_neg h64 h
          refine g_aload_n (q0 := 70) (j := 0) rfl dX12_readsGraft_69 rfl ?_
          obtain ⟨r70, e70, h⟩ := gI_bd h
          refine g_callVq1 (as := []) (rest := []) mt_X12_here mi_X12_here se_X12_here ml_X12_265 dX12_readsGraft_70 (q0 := 73) rfl rfl (sh_711 hOK2) rfl rfl (ok_here hOK2 e70) rfl ⟨by decide, by decide⟩ (Nat.le_of_ble_eq_true rfl) ⟨Nat.zero_le _, Nat.zero_le _⟩ ?_
          refine g_bipush (q0 := 75) rfl dX12_readsGraft_73 (k := ?_)
          refine g_icmp_ne (q0 := 78) (tgt := 97) rfl dX12_readsGraft_75 (by decide) (fun h75 => ?_) (fun h75 => ?_)
          · replace h := gI_neg h75 h
            refine g_aload_n (q0 := 98) (j := 0) rfl dX12_readsGraft_97 rfl ?_
            refine g_getf (q0 := 101) (t := 0) (fi := 19) rfl rfl ff_X12_256 dX12_readsGraft_98 rfl (sh_711 hOK2) ?_
            refine g_istore_n (q0 := 102) (j := 2) (lv2 := [_, _, _, _]) rfl dX12_readsGraft_101 (by decide) rfl rfl ?_
            refine g_aload_n (q0 := 103) (j := 0) rfl dX12_readsGraft_102 rfl ?_
            obtain ⟨p103, e103, h⟩ := gI_bd h
            refine g_callVq1 (as := []) (rest := []) mt_X12_readsNumber mi_X12_readsNumber se_X12_readsNumber ml_X12_284 dX12_readsGraft_103 (q0 := 106) rfl rfl (sh_711 hOK2) rfl rfl (ok_readsNumber hOK2 e103) rfl ⟨by decide, by decide⟩ (Nat.le_of_ble_eq_true rfl) ⟨Nat.zero_le _, Nat.zero_le _⟩ ?_
            have hOK3 : gOK sh p103.2 := gOK_fr hOK2 (fr_readsNumber (b := p103) e103) (by first | decide | (intro a ha; simp only [List.mem_cons, List.not_mem_nil, or_false] at ha; omega)) (by decide)
            refine g_if_ne (q0 := 109) (tgt := 111) rfl dX12_readsGraft_106 (by decide) (fun h106 => ?_) (fun h106 => ?_)
            · replace h := gI_neg h106 h
              refine g_aload_n (q0 := 112) (j := 0) rfl dX12_readsGraft_111 rfl ?_
              refine g_aload_n (q0 := 113) (j := 0) rfl dX12_readsGraft_112 rfl ?_
              refine g_getf (q0 := 116) (t := 0) (fi := 22) rfl rfl ff_X12_275 dX12_readsGraft_113 rfl (sh_711 hOK3) ?_
              obtain ⟨r116, e116, h⟩ := gI_bd h
              refine g_callVq1 (as := [_]) (rest := []) mt_X12_isCommit mi_X12_isCommit se_X12_isCommit ml_X12_229 dX12_readsGraft_116 (q0 := 119) rfl rfl (sh_711 hOK3) rfl rfl (ok_isCommit hOK3 e116) rfl ⟨by decide, by decide⟩ (Nat.le_of_ble_eq_true rfl) ⟨Nat.zero_le _, Nat.zero_le _⟩ ?_
              refine g_if_ne (q0 := 122) (tgt := 130) rfl dX12_readsGraft_119 (by decide) (fun h119 => ?_) (fun h119 => ?_)
              · replace h := gI_neg h119 h
                refine g_aload_n (q0 := 131) (j := 0) rfl dX12_readsGraft_130 rfl ?_
                refine g_getf (q0 := 134) (t := 0) (fi := 22) rfl rfl ff_X12_275 dX12_readsGraft_131 rfl (sh_711 hOK3) ?_
                refine g_iload_n (q0 := 135) (j := 3) rfl dX12_readsGraft_134 rfl ?_
                refine g_icmp_lt (q0 := 138) (tgt := 146) rfl dX12_readsGraft_135 (by decide) (fun h135 => ?_) (fun h135 => ?_)
                · replace h := gI_pos h135 h
                  refine g_aload_n (q0 := 147) (j := 0) rfl dX12_readsGraft_146 rfl ?_
                  refine g_bipush (q0 := 149) rfl dX12_readsGraft_147 (k := ?_)
                  refine g_iload_n (q0 := 150) (j := 3) rfl dX12_readsGraft_149 rfl ?_
                  refine g_aload_n (q0 := 151) (j := 0) rfl dX12_readsGraft_150 rfl ?_
                  refine g_getf (q0 := 154) (t := 0) (fi := 22) rfl rfl ff_X12_275 dX12_readsGraft_151 rfl (sh_711 hOK3) ?_
                  obtain ⟨p154, e154, h⟩ := gI_bd h
                  refine g_callVq1 (as := [_, _, _]) (rest := []) mt_X12_adds mi_X12_adds se_X12_adds ml_X12_384 dX12_readsGraft_154 (q0 := 157) rfl rfl (sh_711 hOK3) rfl rfl (ok_adds hOK3 e154) rfl ⟨by decide, by decide⟩ (Nat.le_of_ble_eq_true rfl) ⟨Nat.zero_le _, Nat.zero_le _⟩ ?_
                  have hOK4 : gOK sh p154.2 := gOK_fr hOK3 (fr_adds (b := p154) e154) (by first | decide | (intro a ha; simp only [List.mem_cons, List.not_mem_nil, or_false] at ha; omega)) (by decide)
                  rw [← Option.some.inj h]
                  refine g_zreturn dX12_readsGraft_157 rfl (gnz (bo_adds (b := p154) e154)) ⟨Nat.zero_le _, Nat.zero_le _⟩ ?_
                  exact ⟨rfl, rfl, rfl⟩
                · replace h := gI_neg (Int.not_lt.mpr h135) h
                  refine g_aload_n (q0 := 139) (j := 0) rfl dX12_readsGraft_138 rfl ?_
                  refine g_bipush (q0 := 141) rfl dX12_readsGraft_139 (k := ?_)
                  refine g_iload_n (q0 := 142) (j := 2) rfl dX12_readsGraft_141 rfl ?_
                  obtain ⟨p142, e142, h⟩ := gI_bd h
                  refine g_callVq1 (as := [_, _]) (rest := []) mt_X12_wrongAt mi_X12_wrongAt se_X12_wrongAt ml_X12_269 dX12_readsGraft_142 (q0 := 145) rfl rfl (sh_711 hOK3) rfl rfl (ok_wrongAt hOK3 e142) rfl ⟨by decide, by decide⟩ (Nat.le_of_ble_eq_true rfl) ⟨Nat.zero_le _, Nat.zero_le _⟩ ?_
                  have hOK5 : gOK sh p142.2 := gOK_fr hOK3 (fr_wrongAt (b := p142) e142) (by first | decide | (intro a ha; simp only [List.mem_cons, List.not_mem_nil, or_false] at ha; omega)) (by decide)
                  rw [← Option.some.inj h]
                  refine g_zreturn dX12_readsGraft_145 rfl (gnz (bo_wrongAt (b := p142) e142)) ⟨Nat.zero_le _, Nat.zero_le _⟩ ?_
                  exact ⟨rfl, rfl, rfl⟩
              · replace h := gI_pos h119 h
                refine g_aload_n (q0 := 123) (j := 0) rfl dX12_readsGraft_122 rfl ?_
                refine g_bipush (q0 := 125) rfl dX12_readsGraft_123 (k := ?_)
                refine g_iload_n (q0 := 126) (j := 2) rfl dX12_readsGraft_125 rfl ?_
                obtain ⟨p126, e126, h⟩ := gI_bd h
                refine g_callVq1 (as := [_, _]) (rest := []) mt_X12_wrongAt mi_X12_wrongAt se_X12_wrongAt ml_X12_269 dX12_readsGraft_126 (q0 := 129) rfl rfl (sh_711 hOK3) rfl rfl (ok_wrongAt hOK3 e126) rfl ⟨by decide, by decide⟩ (Nat.le_of_ble_eq_true rfl) ⟨Nat.zero_le _, Nat.zero_le _⟩ ?_
                have hOK6 : gOK sh p126.2 := gOK_fr hOK3 (fr_wrongAt (b := p126) e126) (by first | decide | (intro a ha; simp only [List.mem_cons, List.not_mem_nil, or_false] at ha; omega)) (by decide)
                rw [← Option.some.inj h]
                refine g_zreturn dX12_readsGraft_129 rfl (gnz (bo_wrongAt (b := p126) e126)) ⟨Nat.zero_le _, Nat.zero_le _⟩ ?_
                exact ⟨rfl, rfl, rfl⟩
            · replace h := gI_pos h106 h
              refine g_iconst (q0 := 110) rfl dX12_readsGraft_109 (k := ?_)
              rw [← Option.some.inj h]
              refine g_zreturn dX12_readsGraft_110 rfl (gnz (Or.inl rfl)) ⟨Nat.zero_le _, Nat.zero_le _⟩ ?_
              exact ⟨rfl, rfl, rfl⟩
          · replace h := gI_pos h75 h
            refine g_aload_n (q0 := 79) (j := 0) rfl dX12_readsGraft_78 rfl ?_
            refine g_aload_n (q0 := 80) (j := 0) rfl dX12_readsGraft_79 rfl ?_
            refine g_getf (q0 := 83) (t := 0) (fi := 19) rfl rfl ff_X12_256 dX12_readsGraft_80 rfl (sh_711 hOK2) ?_
            refine g_iconst (q0 := 84) rfl dX12_readsGraft_83 (k := ?_)
            refine g_iaddw (q0 := 85) rfl dX12_readsGraft_84 ?_
            refine g_put (q0 := 88) (t := 0) (fi := 19) rfl rfl ff_X12_256 dX12_readsGraft_85 rfl (sh_711 hOK2) rfl (fun _ => ⟨rfl, rfl⟩) ?_
            have hOK7 : gOK sh (gU p61.2 711 19 (gw32 ((p61.2 711 19) + (1 : Int)))) := gOK_o hOK2 (sh_711 hOK2) (f := 19) rfl rfl
            refine g_aload_n (q0 := 89) (j := 0) rfl dX12_readsGraft_88 rfl ?_
            refine g_bipush (q0 := 91) rfl dX12_readsGraft_89 (k := ?_)
            refine g_iload_n (q0 := 92) (j := 3) rfl dX12_readsGraft_91 rfl ?_
            refine g_iconst (q0 := 93) rfl dX12_readsGraft_92 (k := ?_)
            obtain ⟨p93, e93, h⟩ := gI_bd h
            refine g_callVq1 (as := [_, _, _]) (rest := []) mt_X12_adds mi_X12_adds se_X12_adds ml_X12_384 dX12_readsGraft_93 (q0 := 96) rfl rfl (sh_711 hOK7) rfl rfl (ok_adds hOK7 e93) rfl ⟨by decide, by decide⟩ (Nat.le_of_ble_eq_true rfl) ⟨Nat.zero_le _, Nat.zero_le _⟩ ?_
            have hOK8 : gOK sh p93.2 := gOK_fr hOK7 (fr_adds (b := p93) e93) (by first | decide | (intro a ha; simp only [List.mem_cons, List.not_mem_nil, or_false] at ha; omega)) (by decide)
            rw [← Option.some.inj h]
            refine g_zreturn dX12_readsGraft_96 rfl (gnz (bo_adds (b := p93) e93)) ⟨Nat.zero_le _, Nat.zero_le _⟩ ?_
            exact ⟨rfl, rfl, rfl⟩
        · replace h := gI_pos h64 h
          refine g_iconst (q0 := 68) rfl dX12_readsGraft_67 (k := ?_)
          rw [← Option.some.inj h]
          refine g_zreturn dX12_readsGraft_68 rfl (gnz (Or.inl rfl)) ⟨Nat.zero_le _, Nat.zero_le _⟩ ?_
          exact ⟨rfl, rfl, rfl⟩
      · replace h := gI_neg h47 h
        refine g_aload_n (q0 := 51) (j := 0) rfl dX12_readsGraft_50 rfl ?_
        refine g_bipush (q0 := 53) rfl dX12_readsGraft_51 (k := ?_)
        refine g_iload_n (q0 := 54) (j := 1) rfl dX12_readsGraft_53 rfl ?_
        obtain ⟨p54, e54, h⟩ := gI_bd h
        refine g_callVq1 (as := [_, _]) (rest := []) mt_X12_wrongAt mi_X12_wrongAt se_X12_wrongAt ml_X12_269 dX12_readsGraft_54 (q0 := 57) rfl rfl (sh_711 hOK1) rfl rfl (ok_wrongAt hOK1 e54) rfl ⟨by decide, by decide⟩ (Nat.le_of_ble_eq_true rfl) ⟨Nat.zero_le _, Nat.zero_le _⟩ ?_
        have hOK9 : gOK sh p54.2 := gOK_fr hOK1 (fr_wrongAt (b := p54) e54) (by first | decide | (intro a ha; simp only [List.mem_cons, List.not_mem_nil, or_false] at ha; omega)) (by decide)
        rw [← Option.some.inj h]
        refine g_zreturn dX12_readsGraft_57 rfl (gnz (bo_wrongAt (b := p54) e54)) ⟨Nat.zero_le _, Nat.zero_le _⟩ ?_
        exact ⟨rfl, rfl, rfl⟩
    · replace h := gI_pos h29 h
      refine g_aload_n (q0 := 33) (j := 0) rfl dX12_readsGraft_32 rfl ?_
      refine g_bipush (q0 := 35) rfl dX12_readsGraft_33 (k := ?_)
      refine g_iload_n (q0 := 36) (j := 2) rfl dX12_readsGraft_35 rfl ?_
      obtain ⟨p36, e36, h⟩ := gI_bd h
      refine g_callVq1 (as := [_, _]) (rest := []) mt_X12_wrongAt mi_X12_wrongAt se_X12_wrongAt ml_X12_269 dX12_readsGraft_36 (q0 := 39) rfl rfl (sh_711 hOK1) rfl rfl (ok_wrongAt hOK1 e36) rfl ⟨by decide, by decide⟩ (Nat.le_of_ble_eq_true rfl) ⟨Nat.zero_le _, Nat.zero_le _⟩ ?_
      have hOK10 : gOK sh p36.2 := gOK_fr hOK1 (fr_wrongAt (b := p36) e36) (by first | decide | (intro a ha; simp only [List.mem_cons, List.not_mem_nil, or_false] at ha; omega)) (by decide)
      rw [← Option.some.inj h]
      refine g_zreturn dX12_readsGraft_39 rfl (gnz (bo_wrongAt (b := p36) e36)) ⟨Nat.zero_le _, Nat.zero_le _⟩ ?_
      exact ⟨rfl, rfl, rfl⟩
  · replace h := gI_pos h14 h
    refine g_iconst (q0 := 18) rfl dX12_readsGraft_17 (k := ?_)
    rw [← Option.some.inj h]
    refine g_zreturn dX12_readsGraft_18 rfl (gnz (Or.inl rfl)) ⟨Nat.zero_le _, Nat.zero_le _⟩ ?_
    exact ⟨rfl, rfl, rfl⟩
-- ==== readsSign
theorem dX12_readsSign_0 : decode cX12_readsSign 0 = .ok (.aload_n 0, 1) := by decide +kernel
theorem dX12_readsSign_1 : decode cX12_readsSign 1 = .ok (.getfield 366, 3) := by decide +kernel
theorem dX12_readsSign_4 : decode cX12_readsSign 4 = .ok (.istore_n 1, 1) := by decide +kernel
theorem dX12_readsSign_5 : decode cX12_readsSign 5 = .ok (.aload_n 0, 1) := by decide +kernel
theorem dX12_readsSign_6 : decode cX12_readsSign 6 = .ok (.iconst 0, 1) := by decide +kernel
theorem dX12_readsSign_7 : decode cX12_readsSign 7 = .ok (.bipush 9, 2) := by decide +kernel
theorem dX12_readsSign_9 : decode cX12_readsSign 9 = .ok (.invokevirtual 387, 3) := by decide +kernel
theorem dX12_readsSign_12 : decode cX12_readsSign 12 = .ok (.ifCond .ne 5, 3) := by decide +kernel
theorem dX12_readsSign_15 : decode cX12_readsSign 15 = .ok (.iconst 0, 1) := by decide +kernel
theorem dX12_readsSign_16 : decode cX12_readsSign 16 = .ok (.ireturn, 1) := by decide +kernel
theorem dX12_readsSign_17 : decode cX12_readsSign 17 = .ok (.aload_n 0, 1) := by decide +kernel
theorem dX12_readsSign_18 : decode cX12_readsSign 18 = .ok (.getfield 275, 3) := by decide +kernel
theorem dX12_readsSign_21 : decode cX12_readsSign 21 = .ok (.istore_n 2, 1) := by decide +kernel
theorem dX12_readsSign_22 : decode cX12_readsSign 22 = .ok (.aload_n 0, 1) := by decide +kernel
theorem dX12_readsSign_23 : decode cX12_readsSign 23 = .ok (.getfield 63, 3) := by decide +kernel
theorem dX12_readsSign_26 : decode cX12_readsSign 26 = .ok (.sipush 330, 3) := by decide +kernel
theorem dX12_readsSign_29 : decode cX12_readsSign 29 = .ok (.iload_n 2, 1) := by decide +kernel
theorem dX12_readsSign_30 : decode cX12_readsSign 30 = .ok (.iadd, 1) := by decide +kernel
theorem dX12_readsSign_31 : decode cX12_readsSign 31 = .ok (.iaload, 1) := by decide +kernel
theorem dX12_readsSign_32 : decode cX12_readsSign 32 = .ok (.iconst (-1), 1) := by decide +kernel
theorem dX12_readsSign_33 : decode cX12_readsSign 33 = .ok (.if_icmp .eq 11, 3) := by decide +kernel
theorem dX12_readsSign_36 : decode cX12_readsSign 36 = .ok (.aload_n 0, 1) := by decide +kernel
theorem dX12_readsSign_37 : decode cX12_readsSign 37 = .ok (.bipush 6, 2) := by decide +kernel
theorem dX12_readsSign_39 : decode cX12_readsSign 39 = .ok (.iload_n 1, 1) := by decide +kernel
theorem dX12_readsSign_40 : decode cX12_readsSign 40 = .ok (.invokevirtual 269, 3) := by decide +kernel
theorem dX12_readsSign_43 : decode cX12_readsSign 43 = .ok (.ireturn, 1) := by decide +kernel
theorem dX12_readsSign_44 : decode cX12_readsSign 44 = .ok (.aload_n 0, 1) := by decide +kernel
theorem dX12_readsSign_45 : decode cX12_readsSign 45 = .ok (.bipush 62, 2) := by decide +kernel
theorem dX12_readsSign_47 : decode cX12_readsSign 47 = .ok (.invokevirtual 297, 3) := by decide +kernel
theorem dX12_readsSign_50 : decode cX12_readsSign 50 = .ok (.ifCond .eq 13, 3) := by decide +kernel
theorem dX12_readsSign_53 : decode cX12_readsSign 53 = .ok (.aload_n 0, 1) := by decide +kernel
theorem dX12_readsSign_54 : decode cX12_readsSign 54 = .ok (.iconst 0, 1) := by decide +kernel
theorem dX12_readsSign_55 : decode cX12_readsSign 55 = .ok (.bipush 9, 2) := by decide +kernel
theorem dX12_readsSign_57 : decode cX12_readsSign 57 = .ok (.invokevirtual 387, 3) := by decide +kernel
theorem dX12_readsSign_60 : decode cX12_readsSign 60 = .ok (.ifCond .ne 5, 3) := by decide +kernel
theorem dX12_readsSign_63 : decode cX12_readsSign 63 = .ok (.iconst 0, 1) := by decide +kernel
theorem dX12_readsSign_64 : decode cX12_readsSign 64 = .ok (.ireturn, 1) := by decide +kernel
theorem dX12_readsSign_65 : decode cX12_readsSign 65 = .ok (.aload_n 0, 1) := by decide +kernel
theorem dX12_readsSign_66 : decode cX12_readsSign 66 = .ok (.getfield 63, 3) := by decide +kernel
theorem dX12_readsSign_69 : decode cX12_readsSign 69 = .ok (.sipush 330, 3) := by decide +kernel
theorem dX12_readsSign_72 : decode cX12_readsSign 72 = .ok (.iload_n 2, 1) := by decide +kernel
theorem dX12_readsSign_73 : decode cX12_readsSign 73 = .ok (.iadd, 1) := by decide +kernel
theorem dX12_readsSign_74 : decode cX12_readsSign 74 = .ok (.aload_n 0, 1) := by decide +kernel
theorem dX12_readsSign_75 : decode cX12_readsSign 75 = .ok (.getfield 275, 3) := by decide +kernel
theorem dX12_readsSign_78 : decode cX12_readsSign 78 = .ok (.iastore, 1) := by decide +kernel
theorem dX12_readsSign_79 : decode cX12_readsSign 79 = .ok (.aload_n 0, 1) := by decide +kernel
theorem dX12_readsSign_80 : decode cX12_readsSign 80 = .ok (.getfield 63, 3) := by decide +kernel
theorem dX12_readsSign_83 : decode cX12_readsSign 83 = .ok (.sipush 281, 3) := by decide +kernel
theorem dX12_readsSign_86 : decode cX12_readsSign 86 = .ok (.aload_n 0, 1) := by decide +kernel
theorem dX12_readsSign_87 : decode cX12_readsSign 87 = .ok (.getfield 63, 3) := by decide +kernel
theorem dX12_readsSign_90 : decode cX12_readsSign 90 = .ok (.sipush 281, 3) := by decide +kernel
theorem dX12_readsSign_93 : decode cX12_readsSign 93 = .ok (.iaload, 1) := by decide +kernel
theorem dX12_readsSign_94 : decode cX12_readsSign 94 = .ok (.iconst 1, 1) := by decide +kernel
theorem dX12_readsSign_95 : decode cX12_readsSign 95 = .ok (.iadd, 1) := by decide +kernel
theorem dX12_readsSign_96 : decode cX12_readsSign 96 = .ok (.iastore, 1) := by decide +kernel
theorem dX12_readsSign_97 : decode cX12_readsSign 97 = .ok (.iconst 1, 1) := by decide +kernel
theorem dX12_readsSign_98 : decode cX12_readsSign 98 = .ok (.ireturn, 1) := by decide +kernel
noncomputable def F_readsSign (M : gM) : Option (Int × gM) := (Option.bind (F_readsUpTo M 0 9) (fun p9 =>
    (if p9.1 = 0 then
      some (0, p9.2)
    else
      (if 0 ≤ (gw32 ((330 : Int) + (p9.2 711 22))) ∧ (gw32 ((330 : Int) + (p9.2 711 22))) < 340 then
        (if (p9.2 729 (gw32 ((330 : Int) + (p9.2 711 22)))) = -1 then
          (Option.bind (F_takesSign p9.2 62) (fun p47 =>
            (if p47.1 = 0 then
              some (0, p47.2)
            else
              (Option.bind (F_readsUpTo p47.2 0 9) (fun p57 =>
                (if p57.1 = 0 then
                  some (0, p57.2)
                else
                  some (1, (gU (gU p57.2 729 (gw32 ((330 : Int) + (p9.2 711 22))) (p57.2 711 22)) 729 281 (gw32 (((gU p57.2 729 (gw32 ((330 : Int) + (p9.2 711 22))) (p57.2 711 22)) 729 281) + (1 : Int)))))))))))
        else
          (Option.bind (F_wrongAt p9.2 6 (M 711 30)) (fun p40 =>
            some (p40.1, p40.2))))
      else none))))
theorem eq_readsSign (M : gM) : F_readsSign M = (Option.bind (F_readsUpTo M 0 9) (fun p9 =>
    (if p9.1 = 0 then
      some (0, p9.2)
    else
      (if 0 ≤ (gw32 ((330 : Int) + (p9.2 711 22))) ∧ (gw32 ((330 : Int) + (p9.2 711 22))) < 340 then
        (if (p9.2 729 (gw32 ((330 : Int) + (p9.2 711 22)))) = -1 then
          (Option.bind (F_takesSign p9.2 62) (fun p47 =>
            (if p47.1 = 0 then
              some (0, p47.2)
            else
              (Option.bind (F_readsUpTo p47.2 0 9) (fun p57 =>
                (if p57.1 = 0 then
                  some (0, p57.2)
                else
                  some (1, (gU (gU p57.2 729 (gw32 ((330 : Int) + (p9.2 711 22))) (p57.2 711 22)) 729 281 (gw32 (((gU p57.2 729 (gw32 ((330 : Int) + (p9.2 711 22))) (p57.2 711 22)) 729 281) + (1 : Int)))))))))))
        else
          (Option.bind (F_wrongAt p9.2 6 (M 711 30)) (fun p40 =>
            some (p40.1, p40.2))))
      else none)))) := rfl
theorem fr_readsSign {M : gM} {b : Int × gM} (h : F_readsSign M = some b) : gFr [729] [19, 21, 22] M b.2 := by
  rw [eq_readsSign] at h
  obtain ⟨p9, e9, h⟩ := gI_bd h
  rcases gI_or h with h | h
  · rw [← Option.some.inj h]
    exact (gFr_t (gFr_r [729] [19, 21, 22] _) (fr_readsUpTo (b := p9) e9) (by first | decide | simp) (by decide))
  · obtain ⟨g2, h⟩ := gI_gd h
    rcases gI_or h with h | h
    · obtain ⟨p47, e47, h⟩ := gI_bd h
      rcases gI_or h with h | h
      · rw [← Option.some.inj h]
        exact (gFr_t (gFr_t (gFr_r [729] [19, 21, 22] _) (fr_readsUpTo (b := p9) e9) (by first | decide | simp) (by decide)) (fr_takesSign (b := p47) e47) (by first | decide | simp) (by decide))
      · obtain ⟨p57, e57, h⟩ := gI_bd h
        rcases gI_or h with h | h
        · rw [← Option.some.inj h]
          exact (gFr_t (gFr_t (gFr_t (gFr_r [729] [19, 21, 22] _) (fr_readsUpTo (b := p9) e9) (by first | decide | simp) (by decide)) (fr_takesSign (b := p47) e47) (by first | decide | simp) (by decide)) (fr_readsUpTo (b := p57) e57) (by first | decide | simp) (by decide))
        · rw [← Option.some.inj h]
          exact (gFr_a (gFr_a (gFr_t (gFr_t (gFr_t (gFr_r [729] [19, 21, 22] _) (fr_readsUpTo (b := p9) e9) (by first | decide | simp) (by decide)) (fr_takesSign (b := p47) e47) (by first | decide | simp) (by decide)) (fr_readsUpTo (b := p57) e57) (by first | decide | simp) (by decide)) (.head _) (by decide)) (.head _) (by decide))
    · obtain ⟨p40, e40, h⟩ := gI_bd h
      rw [← Option.some.inj h]
      exact (gFr_t (gFr_t (gFr_r [729] [19, 21, 22] _) (fr_readsUpTo (b := p9) e9) (by first | decide | simp) (by decide)) (fr_wrongAt (b := p40) e40) (by first | decide | simp) (by decide))
theorem bo_readsSign {M : gM} {b : Int × gM} (h : F_readsSign M = some b) : b.1 = 0 ∨ b.1 = 1 := by
  rw [eq_readsSign] at h
  obtain ⟨p9, e9, h⟩ := gI_bd h
  rcases gI_or h with h | h
  · rw [← Option.some.inj h]
    exact (Or.inl rfl)
  · obtain ⟨g2, h⟩ := gI_gd h
    rcases gI_or h with h | h
    · obtain ⟨p47, e47, h⟩ := gI_bd h
      rcases gI_or h with h | h
      · rw [← Option.some.inj h]
        exact (Or.inl rfl)
      · obtain ⟨p57, e57, h⟩ := gI_bd h
        rcases gI_or h with h | h
        · rw [← Option.some.inj h]
          exact (Or.inl rfl)
        · rw [← Option.some.inj h]
          exact (Or.inr rfl)
    · obtain ⟨p40, e40, h⟩ := gI_bd h
      rw [← Option.some.inj h]
      exact (bo_wrongAt (b := p40) e40)
theorem ok_readsSign {sh : gS} {M : gM} {b : Int × gM} (hOK : gOK sh M) (h : F_readsSign M = some b) : gC (gr 3 64) yX12_readsSign cX12_readsSign 3 (some (.boolean)) [(4, 711)] sh M (gPq sh (some (0, b.1)) b.2) := by
  rw [eq_readsSign] at h
  refine gC_ofA (lv := [_, _, _]) (by decide +kernel) (Nat.le_of_ble_eq_true rfl) rfl (fun hMw hav => ?_)
  refine g_aload_n (q0 := 1) (j := 0) rfl dX12_readsSign_0 rfl ?_
  refine g_getf (q0 := 4) (t := 0) (fi := 30) rfl rfl ff_X12_366 dX12_readsSign_1 rfl (sh_711 hOK) ?_
  refine g_istore_n (q0 := 5) (j := 1) (lv2 := [_, _, _]) rfl dX12_readsSign_4 (by decide) rfl rfl ?_
  refine g_aload_n (q0 := 6) (j := 0) rfl dX12_readsSign_5 rfl ?_
  refine g_iconst (q0 := 7) rfl dX12_readsSign_6 (k := ?_)
  refine g_bipush (q0 := 9) rfl dX12_readsSign_7 (k := ?_)
  obtain ⟨p9, e9, h⟩ := gI_bd h
  refine g_callVq1 (as := [_, _]) (rest := []) mt_X12_readsUpTo mi_X12_readsUpTo se_X12_readsUpTo ml_X12_387 dX12_readsSign_9 (q0 := 12) rfl rfl (sh_711 hOK) rfl rfl (ok_readsUpTo hOK e9) rfl ⟨by decide, by decide⟩ (Nat.le_of_ble_eq_true rfl) ⟨Nat.zero_le _, Nat.zero_le _⟩ ?_
  have hOK1 : gOK sh p9.2 := gOK_fr hOK (fr_readsUpTo (b := p9) e9) (by first | decide | (intro a ha; simp only [List.mem_cons, List.not_mem_nil, or_false] at ha; omega)) (by decide)
  refine g_if_ne (q0 := 15) (tgt := 17) rfl dX12_readsSign_12 (by decide) (fun h12 => ?_) (fun h12 => ?_)
  · replace h := gI_neg h12 h
    refine g_aload_n (q0 := 18) (j := 0) rfl dX12_readsSign_17 rfl ?_
    refine g_getf (q0 := 21) (t := 0) (fi := 22) rfl rfl ff_X12_275 dX12_readsSign_18 rfl (sh_711 hOK1) ?_
    refine g_istore_n (q0 := 22) (j := 2) (lv2 := [_, _, _]) rfl dX12_readsSign_21 (by decide) rfl rfl ?_
    refine g_aload_n (q0 := 23) (j := 0) rfl dX12_readsSign_22 rfl ?_
    refine g_getp (q0 := 26) (b := 729) rfl ff_X12_63 dX12_readsSign_23 rfl hOK1 (by decide) (sh_711 hOK1) rfl (by decide) ?_
    refine g_sipush (q0 := 29) rfl dX12_readsSign_26 (k := ?_)
    refine g_iload_n (q0 := 30) (j := 2) rfl dX12_readsSign_29 rfl ?_
    refine g_iaddw (q0 := 31) rfl dX12_readsSign_30 ?_
    obtain ⟨g2, h⟩ := gI_gd h
    refine g_iald (q0 := 32) rfl dX12_readsSign_31 (sh_729 hOK1) g2.1 g2.2 ?_
    refine g_iconst (q0 := 33) rfl dX12_readsSign_32 (k := ?_)
    refine g_icmp_eq (q0 := 36) (tgt := 44) rfl dX12_readsSign_33 (by decide) (fun h33 => ?_) (fun h33 => ?_)
    · replace h := gI_pos h33 h
      refine g_aload_n (q0 := 45) (j := 0) rfl dX12_readsSign_44 rfl ?_
      refine g_bipush (q0 := 47) rfl dX12_readsSign_45 (k := ?_)
      obtain ⟨p47, e47, h⟩ := gI_bd h
      refine g_callVq1 (as := [_]) (rest := []) mt_X12_takesSign mi_X12_takesSign se_X12_takesSign ml_X12_297 dX12_readsSign_47 (q0 := 50) rfl rfl (sh_711 hOK1) rfl rfl (ok_takesSign hOK1 e47) rfl ⟨by decide, by decide⟩ (Nat.le_of_ble_eq_true rfl) ⟨Nat.zero_le _, Nat.zero_le _⟩ ?_
      have hOK3 : gOK sh p47.2 := gOK_fr hOK1 (fr_takesSign (b := p47) e47) (by first | decide | (intro a ha; simp only [List.mem_cons, List.not_mem_nil, or_false] at ha; omega)) (by decide)
      refine g_if_eq (q0 := 53) (tgt := 63) rfl dX12_readsSign_50 (by decide) (fun h50 => ?_) (fun h50 => ?_)
      · replace h := gI_pos h50 h
        refine g_iconst (q0 := 64) rfl dX12_readsSign_63 (k := ?_)
        rw [← Option.some.inj h]
        refine g_zreturn dX12_readsSign_64 rfl (gnz (Or.inl rfl)) ⟨Nat.zero_le _, Nat.zero_le _⟩ ?_
        exact ⟨rfl, rfl, rfl⟩
      · replace h := gI_neg h50 h
        refine g_aload_n (q0 := 54) (j := 0) rfl dX12_readsSign_53 rfl ?_
        refine g_iconst (q0 := 55) rfl dX12_readsSign_54 (k := ?_)
        refine g_bipush (q0 := 57) rfl dX12_readsSign_55 (k := ?_)
        obtain ⟨p57, e57, h⟩ := gI_bd h
        refine g_callVq1 (as := [_, _]) (rest := []) mt_X12_readsUpTo mi_X12_readsUpTo se_X12_readsUpTo ml_X12_387 dX12_readsSign_57 (q0 := 60) rfl rfl (sh_711 hOK3) rfl rfl (ok_readsUpTo hOK3 e57) rfl ⟨by decide, by decide⟩ (Nat.le_of_ble_eq_true rfl) ⟨Nat.zero_le _, Nat.zero_le _⟩ ?_
        have hOK4 : gOK sh p57.2 := gOK_fr hOK3 (fr_readsUpTo (b := p57) e57) (by first | decide | (intro a ha; simp only [List.mem_cons, List.not_mem_nil, or_false] at ha; omega)) (by decide)
        refine g_if_ne (q0 := 63) (tgt := 65) rfl dX12_readsSign_60 (by decide) (fun h60 => ?_) (fun h60 => ?_)
        · replace h := gI_neg h60 h
          refine g_aload_n (q0 := 66) (j := 0) rfl dX12_readsSign_65 rfl ?_
          refine g_getp (q0 := 69) (b := 729) rfl ff_X12_63 dX12_readsSign_66 rfl hOK4 (by decide) (sh_711 hOK4) rfl (by decide) ?_
          refine g_sipush (q0 := 72) rfl dX12_readsSign_69 (k := ?_)
          refine g_iload_n (q0 := 73) (j := 2) rfl dX12_readsSign_72 rfl ?_
          refine g_iaddw (q0 := 74) rfl dX12_readsSign_73 ?_
          refine g_aload_n (q0 := 75) (j := 0) rfl dX12_readsSign_74 rfl ?_
          refine g_getf (q0 := 78) (t := 0) (fi := 22) rfl rfl ff_X12_275 dX12_readsSign_75 rfl (sh_711 hOK4) ?_
          refine g_iast (q0 := 79) rfl dX12_readsSign_78 (sh_729 hOK4) g2.1 g2.2 ?_
          have hOK5 : gOK sh (gU p57.2 729 (gw32 ((330 : Int) + (p9.2 711 22))) (p57.2 711 22)) := gOK_i hOK4 (sh_729 hOK4)
          refine g_aload_n (q0 := 80) (j := 0) rfl dX12_readsSign_79 rfl ?_
          refine g_getp (q0 := 83) (b := 729) rfl ff_X12_63 dX12_readsSign_80 rfl hOK5 (by decide) (sh_711 hOK5) rfl (by decide) ?_
          refine g_sipush (q0 := 86) rfl dX12_readsSign_83 (k := ?_)
          refine g_aload_n (q0 := 87) (j := 0) rfl dX12_readsSign_86 rfl ?_
          refine g_getp (q0 := 90) (b := 729) rfl ff_X12_63 dX12_readsSign_87 rfl hOK5 (by decide) (sh_711 hOK5) rfl (by decide) ?_
          refine g_sipush (q0 := 93) rfl dX12_readsSign_90 (k := ?_)
          refine g_iald (q0 := 94) rfl dX12_readsSign_93 (sh_729 hOK5) (by decide) (by decide) ?_
          refine g_iconst (q0 := 95) rfl dX12_readsSign_94 (k := ?_)
          refine g_iaddw (q0 := 96) rfl dX12_readsSign_95 ?_
          refine g_iast (q0 := 97) rfl dX12_readsSign_96 (sh_729 hOK5) (by decide) (by decide) ?_
          have hOK6 : gOK sh (gU (gU p57.2 729 (gw32 ((330 : Int) + (p9.2 711 22))) (p57.2 711 22)) 729 281 (gw32 (((gU p57.2 729 (gw32 ((330 : Int) + (p9.2 711 22))) (p57.2 711 22)) 729 281) + (1 : Int)))) := gOK_i hOK5 (sh_729 hOK5)
          refine g_iconst (q0 := 98) rfl dX12_readsSign_97 (k := ?_)
          rw [← Option.some.inj h]
          refine g_zreturn dX12_readsSign_98 rfl (gnz (Or.inr rfl)) ⟨Nat.zero_le _, Nat.zero_le _⟩ ?_
          exact ⟨rfl, rfl, rfl⟩
        · replace h := gI_pos h60 h
          refine g_iconst (q0 := 64) rfl dX12_readsSign_63 (k := ?_)
          rw [← Option.some.inj h]
          refine g_zreturn dX12_readsSign_64 rfl (gnz (Or.inl rfl)) ⟨Nat.zero_le _, Nat.zero_le _⟩ ?_
          exact ⟨rfl, rfl, rfl⟩
    · replace h := gI_neg h33 h
      refine g_aload_n (q0 := 37) (j := 0) rfl dX12_readsSign_36 rfl ?_
      refine g_bipush (q0 := 39) rfl dX12_readsSign_37 (k := ?_)
      refine g_iload_n (q0 := 40) (j := 1) rfl dX12_readsSign_39 rfl ?_
      obtain ⟨p40, e40, h⟩ := gI_bd h
      refine g_callVq1 (as := [_, _]) (rest := []) mt_X12_wrongAt mi_X12_wrongAt se_X12_wrongAt ml_X12_269 dX12_readsSign_40 (q0 := 43) rfl rfl (sh_711 hOK1) rfl rfl (ok_wrongAt hOK1 e40) rfl ⟨by decide, by decide⟩ (Nat.le_of_ble_eq_true rfl) ⟨Nat.zero_le _, Nat.zero_le _⟩ ?_
      have hOK7 : gOK sh p40.2 := gOK_fr hOK1 (fr_wrongAt (b := p40) e40) (by first | decide | (intro a ha; simp only [List.mem_cons, List.not_mem_nil, or_false] at ha; omega)) (by decide)
      rw [← Option.some.inj h]
      refine g_zreturn dX12_readsSign_43 rfl (gnz (bo_wrongAt (b := p40) e40)) ⟨Nat.zero_le _, Nat.zero_le _⟩ ?_
      exact ⟨rfl, rfl, rfl⟩
  · replace h := gI_pos h12 h
    refine g_iconst (q0 := 16) rfl dX12_readsSign_15 (k := ?_)
    rw [← Option.some.inj h]
    refine g_zreturn dX12_readsSign_16 rfl (gnz (Or.inl rfl)) ⟨Nat.zero_le _, Nat.zero_le _⟩ ?_
    exact ⟨rfl, rfl, rfl⟩
-- ==== listOf
theorem dX12_listOf_0 : decode cX12_listOf 0 = .ok (.iload_n 0, 1) := by decide +kernel
theorem dX12_listOf_1 : decode cX12_listOf 1 = .ok (.ldc_w 390, 3) := by decide +kernel
theorem dX12_listOf_4 : decode cX12_listOf 4 = .ok (.if_icmp .ne 7, 3) := by decide +kernel
theorem dX12_listOf_7 : decode cX12_listOf 7 = .ok (.iconst 1, 1) := by decide +kernel
theorem dX12_listOf_8 : decode cX12_listOf 8 = .ok (.goto 60, 3) := by decide +kernel
theorem dX12_listOf_11 : decode cX12_listOf 11 = .ok (.iload_n 0, 1) := by decide +kernel
theorem dX12_listOf_12 : decode cX12_listOf 12 = .ok (.ldc_w 391, 3) := by decide +kernel
theorem dX12_listOf_15 : decode cX12_listOf 15 = .ok (.if_icmp .ne 7, 3) := by decide +kernel
theorem dX12_listOf_18 : decode cX12_listOf 18 = .ok (.iconst 2, 1) := by decide +kernel
theorem dX12_listOf_19 : decode cX12_listOf 19 = .ok (.goto 49, 3) := by decide +kernel
theorem dX12_listOf_22 : decode cX12_listOf 22 = .ok (.iload_n 0, 1) := by decide +kernel
theorem dX12_listOf_23 : decode cX12_listOf 23 = .ok (.ldc_w 392, 3) := by decide +kernel
theorem dX12_listOf_26 : decode cX12_listOf 26 = .ok (.if_icmp .ne 7, 3) := by decide +kernel
theorem dX12_listOf_29 : decode cX12_listOf 29 = .ok (.iconst 3, 1) := by decide +kernel
theorem dX12_listOf_30 : decode cX12_listOf 30 = .ok (.goto 38, 3) := by decide +kernel
theorem dX12_listOf_33 : decode cX12_listOf 33 = .ok (.iload_n 0, 1) := by decide +kernel
theorem dX12_listOf_34 : decode cX12_listOf 34 = .ok (.ldc_w 393, 3) := by decide +kernel
theorem dX12_listOf_37 : decode cX12_listOf 37 = .ok (.if_icmp .ne 7, 3) := by decide +kernel
theorem dX12_listOf_40 : decode cX12_listOf 40 = .ok (.iconst 4, 1) := by decide +kernel
theorem dX12_listOf_41 : decode cX12_listOf 41 = .ok (.goto 27, 3) := by decide +kernel
theorem dX12_listOf_44 : decode cX12_listOf 44 = .ok (.iload_n 0, 1) := by decide +kernel
theorem dX12_listOf_45 : decode cX12_listOf 45 = .ok (.ldc_w 394, 3) := by decide +kernel
theorem dX12_listOf_48 : decode cX12_listOf 48 = .ok (.if_icmp .ne 7, 3) := by decide +kernel
theorem dX12_listOf_51 : decode cX12_listOf 51 = .ok (.iconst 5, 1) := by decide +kernel
theorem dX12_listOf_52 : decode cX12_listOf 52 = .ok (.goto 16, 3) := by decide +kernel
theorem dX12_listOf_55 : decode cX12_listOf 55 = .ok (.iload_n 0, 1) := by decide +kernel
theorem dX12_listOf_56 : decode cX12_listOf 56 = .ok (.ldc_w 395, 3) := by decide +kernel
theorem dX12_listOf_59 : decode cX12_listOf 59 = .ok (.if_icmp .ne 8, 3) := by decide +kernel
theorem dX12_listOf_62 : decode cX12_listOf 62 = .ok (.bipush 6, 2) := by decide +kernel
theorem dX12_listOf_64 : decode cX12_listOf 64 = .ok (.goto 4, 3) := by decide +kernel
theorem dX12_listOf_67 : decode cX12_listOf 67 = .ok (.iconst 0, 1) := by decide +kernel
theorem dX12_listOf_68 : decode cX12_listOf 68 = .ok (.ireturn, 1) := by decide +kernel
noncomputable def F_listOf (a0 : Int) : Option (Int) := (if a0 = 365744 then
    some 1
  else
    (if a0 = 150000 then
      some 2
    else
      (if a0 = 442053 then
        some 3
      else
        (if a0 = 646192 then
          some 4
        else
          (if a0 = 769604 then
            some 5
          else
            (if a0 = 7931092 then
              some 6
            else
              some 0))))))
theorem eq_listOf (a0 : Int) : F_listOf a0 = (if a0 = 365744 then
    some 1
  else
    (if a0 = 150000 then
      some 2
    else
      (if a0 = 442053 then
        some 3
      else
        (if a0 = 646192 then
          some 4
        else
          (if a0 = 769604 then
            some 5
          else
            (if a0 = 7931092 then
              some 6
            else
              some 0)))))) := rfl
theorem ok_listOf {sh : gS} {M : gM} {a0 : Int} {b : Int} (hOK : gOK sh M) (h : F_listOf a0 = some b) : gC (gr 0 0) yX12_listOf cX12_listOf 1 (some (.int)) [(0, a0)] sh M (gPq sh (some (0, b)) M) := by
  rw [eq_listOf] at h
  refine gC_ofA (lv := [_]) (by decide +kernel) (Nat.le_of_ble_eq_true rfl) rfl (fun hMw hav => ?_)
  refine g_iload_n (q0 := 1) (j := 0) rfl dX12_listOf_0 rfl ?_
  refine g_ldcw (q0 := 4) (n := 365744) rfl co_X12_390 dX12_listOf_1 (k := ?_)
  refine g_icmp_ne (q0 := 7) (tgt := 11) rfl dX12_listOf_4 (by decide) (fun h4 => ?_) (fun h4 => ?_)
  · replace h := gI_neg h4 h
    refine g_iload_n (q0 := 12) (j := 0) rfl dX12_listOf_11 rfl ?_
    refine g_ldcw (q0 := 15) (n := 150000) rfl co_X12_391 dX12_listOf_12 (k := ?_)
    refine g_icmp_ne (q0 := 18) (tgt := 22) rfl dX12_listOf_15 (by decide) (fun h15 => ?_) (fun h15 => ?_)
    · replace h := gI_neg h15 h
      refine g_iload_n (q0 := 23) (j := 0) rfl dX12_listOf_22 rfl ?_
      refine g_ldcw (q0 := 26) (n := 442053) rfl co_X12_392 dX12_listOf_23 (k := ?_)
      refine g_icmp_ne (q0 := 29) (tgt := 33) rfl dX12_listOf_26 (by decide) (fun h26 => ?_) (fun h26 => ?_)
      · replace h := gI_neg h26 h
        refine g_iload_n (q0 := 34) (j := 0) rfl dX12_listOf_33 rfl ?_
        refine g_ldcw (q0 := 37) (n := 646192) rfl co_X12_393 dX12_listOf_34 (k := ?_)
        refine g_icmp_ne (q0 := 40) (tgt := 44) rfl dX12_listOf_37 (by decide) (fun h37 => ?_) (fun h37 => ?_)
        · replace h := gI_neg h37 h
          refine g_iload_n (q0 := 45) (j := 0) rfl dX12_listOf_44 rfl ?_
          refine g_ldcw (q0 := 48) (n := 769604) rfl co_X12_394 dX12_listOf_45 (k := ?_)
          refine g_icmp_ne (q0 := 51) (tgt := 55) rfl dX12_listOf_48 (by decide) (fun h48 => ?_) (fun h48 => ?_)
          · replace h := gI_neg h48 h
            refine g_iload_n (q0 := 56) (j := 0) rfl dX12_listOf_55 rfl ?_
            refine g_ldcw (q0 := 59) (n := 7931092) rfl co_X12_395 dX12_listOf_56 (k := ?_)
            refine g_icmp_ne (q0 := 62) (tgt := 67) rfl dX12_listOf_59 (by decide) (fun h59 => ?_) (fun h59 => ?_)
            · replace h := gI_neg h59 h
              refine g_iconst (q0 := 68) rfl dX12_listOf_67 (k := ?_)
              rw [← Option.some.inj h]
              refine g_ireturn dX12_listOf_68 rfl ⟨Nat.zero_le _, Nat.zero_le _⟩ ?_
              exact ⟨rfl, rfl, rfl⟩
            · replace h := gI_pos h59 h
              refine g_bipush (q0 := 64) rfl dX12_listOf_62 (k := ?_)
              refine g_goto (tgt := 68) dX12_listOf_64 (by decide) ?_
              rw [← Option.some.inj h]
              refine g_ireturn dX12_listOf_68 rfl ⟨Nat.zero_le _, Nat.zero_le _⟩ ?_
              exact ⟨rfl, rfl, rfl⟩
          · replace h := gI_pos h48 h
            refine g_iconst (q0 := 52) rfl dX12_listOf_51 (k := ?_)
            refine g_goto (tgt := 68) dX12_listOf_52 (by decide) ?_
            rw [← Option.some.inj h]
            refine g_ireturn dX12_listOf_68 rfl ⟨Nat.zero_le _, Nat.zero_le _⟩ ?_
            exact ⟨rfl, rfl, rfl⟩
        · replace h := gI_pos h37 h
          refine g_iconst (q0 := 41) rfl dX12_listOf_40 (k := ?_)
          refine g_goto (tgt := 68) dX12_listOf_41 (by decide) ?_
          rw [← Option.some.inj h]
          refine g_ireturn dX12_listOf_68 rfl ⟨Nat.zero_le _, Nat.zero_le _⟩ ?_
          exact ⟨rfl, rfl, rfl⟩
      · replace h := gI_pos h26 h
        refine g_iconst (q0 := 30) rfl dX12_listOf_29 (k := ?_)
        refine g_goto (tgt := 68) dX12_listOf_30 (by decide) ?_
        rw [← Option.some.inj h]
        refine g_ireturn dX12_listOf_68 rfl ⟨Nat.zero_le _, Nat.zero_le _⟩ ?_
        exact ⟨rfl, rfl, rfl⟩
    · replace h := gI_pos h15 h
      refine g_iconst (q0 := 19) rfl dX12_listOf_18 (k := ?_)
      refine g_goto (tgt := 68) dX12_listOf_19 (by decide) ?_
      rw [← Option.some.inj h]
      refine g_ireturn dX12_listOf_68 rfl ⟨Nat.zero_le _, Nat.zero_le _⟩ ?_
      exact ⟨rfl, rfl, rfl⟩
  · replace h := gI_pos h4 h
    refine g_iconst (q0 := 8) rfl dX12_listOf_7 (k := ?_)
    refine g_goto (tgt := 68) dX12_listOf_8 (by decide) ?_
    rw [← Option.some.inj h]
    refine g_ireturn dX12_listOf_68 rfl ⟨Nat.zero_le _, Nat.zero_le _⟩ ?_
    exact ⟨rfl, rfl, rfl⟩
-- ==== onceOf
theorem dX12_onceOf_0 : decode cX12_onceOf 0 = .ok (.iload_n 0, 1) := by decide +kernel
theorem dX12_onceOf_1 : decode cX12_onceOf 1 = .ok (.ldc_w 396, 3) := by decide +kernel
theorem dX12_onceOf_4 : decode cX12_onceOf 4 = .ok (.if_icmp .ne 8, 3) := by decide +kernel
theorem dX12_onceOf_7 : decode cX12_onceOf 7 = .ok (.bipush 11, 2) := by decide +kernel
theorem dX12_onceOf_9 : decode cX12_onceOf 9 = .ok (.goto 52, 3) := by decide +kernel
theorem dX12_onceOf_12 : decode cX12_onceOf 12 = .ok (.iload_n 0, 1) := by decide +kernel
theorem dX12_onceOf_13 : decode cX12_onceOf 13 = .ok (.ldc_w 397, 3) := by decide +kernel
theorem dX12_onceOf_16 : decode cX12_onceOf 16 = .ok (.if_icmp .ne 8, 3) := by decide +kernel
theorem dX12_onceOf_19 : decode cX12_onceOf 19 = .ok (.bipush 12, 2) := by decide +kernel
theorem dX12_onceOf_21 : decode cX12_onceOf 21 = .ok (.goto 40, 3) := by decide +kernel
theorem dX12_onceOf_24 : decode cX12_onceOf 24 = .ok (.iload_n 0, 1) := by decide +kernel
theorem dX12_onceOf_25 : decode cX12_onceOf 25 = .ok (.ldc_w 398, 3) := by decide +kernel
theorem dX12_onceOf_28 : decode cX12_onceOf 28 = .ok (.if_icmp .ne 8, 3) := by decide +kernel
theorem dX12_onceOf_31 : decode cX12_onceOf 31 = .ok (.bipush 13, 2) := by decide +kernel
theorem dX12_onceOf_33 : decode cX12_onceOf 33 = .ok (.goto 28, 3) := by decide +kernel
theorem dX12_onceOf_36 : decode cX12_onceOf 36 = .ok (.iload_n 0, 1) := by decide +kernel
theorem dX12_onceOf_37 : decode cX12_onceOf 37 = .ok (.ldc_w 399, 3) := by decide +kernel
theorem dX12_onceOf_40 : decode cX12_onceOf 40 = .ok (.if_icmp .ne 8, 3) := by decide +kernel
theorem dX12_onceOf_43 : decode cX12_onceOf 43 = .ok (.bipush 14, 2) := by decide +kernel
theorem dX12_onceOf_45 : decode cX12_onceOf 45 = .ok (.goto 16, 3) := by decide +kernel
theorem dX12_onceOf_48 : decode cX12_onceOf 48 = .ok (.iload_n 0, 1) := by decide +kernel
theorem dX12_onceOf_49 : decode cX12_onceOf 49 = .ok (.ldc_w 400, 3) := by decide +kernel
theorem dX12_onceOf_52 : decode cX12_onceOf 52 = .ok (.if_icmp .ne 8, 3) := by decide +kernel
theorem dX12_onceOf_55 : decode cX12_onceOf 55 = .ok (.bipush 15, 2) := by decide +kernel
theorem dX12_onceOf_57 : decode cX12_onceOf 57 = .ok (.goto 4, 3) := by decide +kernel
theorem dX12_onceOf_60 : decode cX12_onceOf 60 = .ok (.iconst 0, 1) := by decide +kernel
theorem dX12_onceOf_61 : decode cX12_onceOf 61 = .ok (.ireturn, 1) := by decide +kernel
noncomputable def F_onceOf (a0 : Int) : Option (Int) := (if a0 = 442047667 then
    some 11
  else
    (if a0 = 5685913 then
      some 12
    else
      (if a0 = 656627 then
        some 13
      else
        (if a0 = 20232293 then
          some 14
        else
          (if a0 = 441972 then
            some 15
          else
            some 0)))))
theorem eq_onceOf (a0 : Int) : F_onceOf a0 = (if a0 = 442047667 then
    some 11
  else
    (if a0 = 5685913 then
      some 12
    else
      (if a0 = 656627 then
        some 13
      else
        (if a0 = 20232293 then
          some 14
        else
          (if a0 = 441972 then
            some 15
          else
            some 0))))) := rfl
theorem ok_onceOf {sh : gS} {M : gM} {a0 : Int} {b : Int} (hOK : gOK sh M) (h : F_onceOf a0 = some b) : gC (gr 0 0) yX12_onceOf cX12_onceOf 1 (some (.int)) [(0, a0)] sh M (gPq sh (some (0, b)) M) := by
  rw [eq_onceOf] at h
  refine gC_ofA (lv := [_]) (by decide +kernel) (Nat.le_of_ble_eq_true rfl) rfl (fun hMw hav => ?_)
  refine g_iload_n (q0 := 1) (j := 0) rfl dX12_onceOf_0 rfl ?_
  refine g_ldcw (q0 := 4) (n := 442047667) rfl co_X12_396 dX12_onceOf_1 (k := ?_)
  refine g_icmp_ne (q0 := 7) (tgt := 12) rfl dX12_onceOf_4 (by decide) (fun h4 => ?_) (fun h4 => ?_)
  · replace h := gI_neg h4 h
    refine g_iload_n (q0 := 13) (j := 0) rfl dX12_onceOf_12 rfl ?_
    refine g_ldcw (q0 := 16) (n := 5685913) rfl co_X12_397 dX12_onceOf_13 (k := ?_)
    refine g_icmp_ne (q0 := 19) (tgt := 24) rfl dX12_onceOf_16 (by decide) (fun h16 => ?_) (fun h16 => ?_)
    · replace h := gI_neg h16 h
      refine g_iload_n (q0 := 25) (j := 0) rfl dX12_onceOf_24 rfl ?_
      refine g_ldcw (q0 := 28) (n := 656627) rfl co_X12_398 dX12_onceOf_25 (k := ?_)
      refine g_icmp_ne (q0 := 31) (tgt := 36) rfl dX12_onceOf_28 (by decide) (fun h28 => ?_) (fun h28 => ?_)
      · replace h := gI_neg h28 h
        refine g_iload_n (q0 := 37) (j := 0) rfl dX12_onceOf_36 rfl ?_
        refine g_ldcw (q0 := 40) (n := 20232293) rfl co_X12_399 dX12_onceOf_37 (k := ?_)
        refine g_icmp_ne (q0 := 43) (tgt := 48) rfl dX12_onceOf_40 (by decide) (fun h40 => ?_) (fun h40 => ?_)
        · replace h := gI_neg h40 h
          refine g_iload_n (q0 := 49) (j := 0) rfl dX12_onceOf_48 rfl ?_
          refine g_ldcw (q0 := 52) (n := 441972) rfl co_X12_400 dX12_onceOf_49 (k := ?_)
          refine g_icmp_ne (q0 := 55) (tgt := 60) rfl dX12_onceOf_52 (by decide) (fun h52 => ?_) (fun h52 => ?_)
          · replace h := gI_neg h52 h
            refine g_iconst (q0 := 61) rfl dX12_onceOf_60 (k := ?_)
            rw [← Option.some.inj h]
            refine g_ireturn dX12_onceOf_61 rfl ⟨Nat.zero_le _, Nat.zero_le _⟩ ?_
            exact ⟨rfl, rfl, rfl⟩
          · replace h := gI_pos h52 h
            refine g_bipush (q0 := 57) rfl dX12_onceOf_55 (k := ?_)
            refine g_goto (tgt := 61) dX12_onceOf_57 (by decide) ?_
            rw [← Option.some.inj h]
            refine g_ireturn dX12_onceOf_61 rfl ⟨Nat.zero_le _, Nat.zero_le _⟩ ?_
            exact ⟨rfl, rfl, rfl⟩
        · replace h := gI_pos h40 h
          refine g_bipush (q0 := 45) rfl dX12_onceOf_43 (k := ?_)
          refine g_goto (tgt := 61) dX12_onceOf_45 (by decide) ?_
          rw [← Option.some.inj h]
          refine g_ireturn dX12_onceOf_61 rfl ⟨Nat.zero_le _, Nat.zero_le _⟩ ?_
          exact ⟨rfl, rfl, rfl⟩
      · replace h := gI_pos h28 h
        refine g_bipush (q0 := 33) rfl dX12_onceOf_31 (k := ?_)
        refine g_goto (tgt := 61) dX12_onceOf_33 (by decide) ?_
        rw [← Option.some.inj h]
        refine g_ireturn dX12_onceOf_61 rfl ⟨Nat.zero_le _, Nat.zero_le _⟩ ?_
        exact ⟨rfl, rfl, rfl⟩
    · replace h := gI_pos h16 h
      refine g_bipush (q0 := 21) rfl dX12_onceOf_19 (k := ?_)
      refine g_goto (tgt := 61) dX12_onceOf_21 (by decide) ?_
      rw [← Option.some.inj h]
      refine g_ireturn dX12_onceOf_61 rfl ⟨Nat.zero_le _, Nat.zero_le _⟩ ?_
      exact ⟨rfl, rfl, rfl⟩
  · replace h := gI_pos h4 h
    refine g_bipush (q0 := 9) rfl dX12_onceOf_7 (k := ?_)
    refine g_goto (tgt := 61) dX12_onceOf_9 (by decide) ?_
    rw [← Option.some.inj h]
    refine g_ireturn dX12_onceOf_61 rfl ⟨Nat.zero_le _, Nat.zero_le _⟩ ?_
    exact ⟨rfl, rfl, rfl⟩
-- ==== readsOnce
theorem dX12_readsOnce_0 : decode cX12_readsOnce 0 = .ok (.iload_n 1, 1) := by decide +kernel
theorem dX12_readsOnce_1 : decode cX12_readsOnce 1 = .ok (.bipush 14, 2) := by decide +kernel
theorem dX12_readsOnce_3 : decode cX12_readsOnce 3 = .ok (.if_icmp .ne 10, 3) := by decide +kernel
theorem dX12_readsOnce_6 : decode cX12_readsOnce 6 = .ok (.aload_n 0, 1) := by decide +kernel
theorem dX12_readsOnce_7 : decode cX12_readsOnce 7 = .ok (.invokevirtual 284, 3) := by decide +kernel
theorem dX12_readsOnce_10 : decode cX12_readsOnce 10 = .ok (.goto 35, 3) := by decide +kernel
theorem dX12_readsOnce_13 : decode cX12_readsOnce 13 = .ok (.iload_n 1, 1) := by decide +kernel
theorem dX12_readsOnce_14 : decode cX12_readsOnce 14 = .ok (.bipush 15, 2) := by decide +kernel
theorem dX12_readsOnce_16 : decode cX12_readsOnce 16 = .ok (.if_icmp .ne 13, 3) := by decide +kernel
theorem dX12_readsOnce_19 : decode cX12_readsOnce 19 = .ok (.aload_n 0, 1) := by decide +kernel
theorem dX12_readsOnce_20 : decode cX12_readsOnce 20 = .ok (.iconst 1, 1) := by decide +kernel
theorem dX12_readsOnce_21 : decode cX12_readsOnce 21 = .ok (.bipush 6, 2) := by decide +kernel
theorem dX12_readsOnce_23 : decode cX12_readsOnce 23 = .ok (.invokevirtual 387, 3) := by decide +kernel
theorem dX12_readsOnce_26 : decode cX12_readsOnce 26 = .ok (.goto 19, 3) := by decide +kernel
theorem dX12_readsOnce_29 : decode cX12_readsOnce 29 = .ok (.aload_n 0, 1) := by decide +kernel
theorem dX12_readsOnce_30 : decode cX12_readsOnce 30 = .ok (.iconst 0, 1) := by decide +kernel
theorem dX12_readsOnce_31 : decode cX12_readsOnce 31 = .ok (.iload_n 1, 1) := by decide +kernel
theorem dX12_readsOnce_32 : decode cX12_readsOnce 32 = .ok (.bipush 11, 2) := by decide +kernel
theorem dX12_readsOnce_34 : decode cX12_readsOnce 34 = .ok (.if_icmp .ne 7, 3) := by decide +kernel
theorem dX12_readsOnce_37 : decode cX12_readsOnce 37 = .ok (.iconst 3, 1) := by decide +kernel
theorem dX12_readsOnce_38 : decode cX12_readsOnce 38 = .ok (.goto 4, 3) := by decide +kernel
theorem dX12_readsOnce_41 : decode cX12_readsOnce 41 = .ok (.iconst 2, 1) := by decide +kernel
theorem dX12_readsOnce_42 : decode cX12_readsOnce 42 = .ok (.invokevirtual 387, 3) := by decide +kernel
theorem dX12_readsOnce_45 : decode cX12_readsOnce 45 = .ok (.istore_n 2, 1) := by decide +kernel
theorem dX12_readsOnce_46 : decode cX12_readsOnce 46 = .ok (.aload_n 0, 1) := by decide +kernel
theorem dX12_readsOnce_47 : decode cX12_readsOnce 47 = .ok (.getfield 63, 3) := by decide +kernel
theorem dX12_readsOnce_50 : decode cX12_readsOnce 50 = .ok (.sipush 272, 3) := by decide +kernel
theorem dX12_readsOnce_53 : decode cX12_readsOnce 53 = .ok (.iload_n 1, 1) := by decide +kernel
theorem dX12_readsOnce_54 : decode cX12_readsOnce 54 = .ok (.iadd, 1) := by decide +kernel
theorem dX12_readsOnce_55 : decode cX12_readsOnce 55 = .ok (.aload_n 0, 1) := by decide +kernel
theorem dX12_readsOnce_56 : decode cX12_readsOnce 56 = .ok (.getfield 275, 3) := by decide +kernel
theorem dX12_readsOnce_59 : decode cX12_readsOnce 59 = .ok (.iastore, 1) := by decide +kernel
theorem dX12_readsOnce_60 : decode cX12_readsOnce 60 = .ok (.iload_n 2, 1) := by decide +kernel
theorem dX12_readsOnce_61 : decode cX12_readsOnce 61 = .ok (.ireturn, 1) := by decide +kernel
noncomputable def F_readsOnce (M : gM) (a1 : Int) : Option (Int × gM) := (if a1 = 14 then
    (Option.bind (F_readsNumber M) (fun p7 =>
      (if 0 ≤ (gw32 ((272 : Int) + a1)) ∧ (gw32 ((272 : Int) + a1)) < 340 then
        some (p7.1, (gU p7.2 729 (gw32 ((272 : Int) + a1)) (p7.2 711 22)))
      else none)))
  else
    (if a1 = 15 then
      (Option.bind (F_readsUpTo M 1 6) (fun p23 =>
        (if 0 ≤ (gw32 ((272 : Int) + a1)) ∧ (gw32 ((272 : Int) + a1)) < 340 then
          some (p23.1, (gU p23.2 729 (gw32 ((272 : Int) + a1)) (p23.2 711 22)))
        else none)))
    else
      (if a1 = 11 then
        (Option.bind (F_readsUpTo M 0 3) (fun p42 =>
          (if 0 ≤ (gw32 ((272 : Int) + a1)) ∧ (gw32 ((272 : Int) + a1)) < 340 then
            some (p42.1, (gU p42.2 729 (gw32 ((272 : Int) + a1)) (p42.2 711 22)))
          else none)))
      else
        (Option.bind (F_readsUpTo M 0 2) (fun p42 =>
          (if 0 ≤ (gw32 ((272 : Int) + a1)) ∧ (gw32 ((272 : Int) + a1)) < 340 then
            some (p42.1, (gU p42.2 729 (gw32 ((272 : Int) + a1)) (p42.2 711 22)))
          else none))))))
theorem eq_readsOnce (M : gM) (a1 : Int) : F_readsOnce M a1 = (if a1 = 14 then
    (Option.bind (F_readsNumber M) (fun p7 =>
      (if 0 ≤ (gw32 ((272 : Int) + a1)) ∧ (gw32 ((272 : Int) + a1)) < 340 then
        some (p7.1, (gU p7.2 729 (gw32 ((272 : Int) + a1)) (p7.2 711 22)))
      else none)))
  else
    (if a1 = 15 then
      (Option.bind (F_readsUpTo M 1 6) (fun p23 =>
        (if 0 ≤ (gw32 ((272 : Int) + a1)) ∧ (gw32 ((272 : Int) + a1)) < 340 then
          some (p23.1, (gU p23.2 729 (gw32 ((272 : Int) + a1)) (p23.2 711 22)))
        else none)))
    else
      (if a1 = 11 then
        (Option.bind (F_readsUpTo M 0 3) (fun p42 =>
          (if 0 ≤ (gw32 ((272 : Int) + a1)) ∧ (gw32 ((272 : Int) + a1)) < 340 then
            some (p42.1, (gU p42.2 729 (gw32 ((272 : Int) + a1)) (p42.2 711 22)))
          else none)))
      else
        (Option.bind (F_readsUpTo M 0 2) (fun p42 =>
          (if 0 ≤ (gw32 ((272 : Int) + a1)) ∧ (gw32 ((272 : Int) + a1)) < 340 then
            some (p42.1, (gU p42.2 729 (gw32 ((272 : Int) + a1)) (p42.2 711 22)))
          else none)))))) := rfl
theorem fr_readsOnce {M : gM} {a1 : Int} {b : Int × gM} (h : F_readsOnce M a1 = some b) : gFr [729] [19, 21, 22] M b.2 := by
  rw [eq_readsOnce] at h
  rcases gI_or h with h | h
  · obtain ⟨p7, e7, h⟩ := gI_bd h
    obtain ⟨g11, h⟩ := gI_gd h
    rw [← Option.some.inj h]
    exact (gFr_a (gFr_t (gFr_r [729] [19, 21, 22] _) (fr_readsNumber (b := p7) e7) (by first | decide | simp) (by decide)) (.head _) (by decide))
  · rcases gI_or h with h | h
    · obtain ⟨p23, e23, h⟩ := gI_bd h
      obtain ⟨g8, h⟩ := gI_gd h
      rw [← Option.some.inj h]
      exact (gFr_a (gFr_t (gFr_r [729] [19, 21, 22] _) (fr_readsUpTo (b := p23) e23) (by first | decide | simp) (by decide)) (.head _) (by decide))
    · rcases gI_or h with h | h
      · obtain ⟨p42, e42, h⟩ := gI_bd h
        obtain ⟨g5, h⟩ := gI_gd h
        rw [← Option.some.inj h]
        exact (gFr_a (gFr_t (gFr_r [729] [19, 21, 22] _) (fr_readsUpTo (b := p42) e42) (by first | decide | simp) (by decide)) (.head _) (by decide))
      · obtain ⟨p42, e42, h⟩ := gI_bd h
        obtain ⟨g2, h⟩ := gI_gd h
        rw [← Option.some.inj h]
        exact (gFr_a (gFr_t (gFr_r [729] [19, 21, 22] _) (fr_readsUpTo (b := p42) e42) (by first | decide | simp) (by decide)) (.head _) (by decide))
theorem bo_readsOnce {M : gM} {a1 : Int} {b : Int × gM} (h : F_readsOnce M a1 = some b) : b.1 = 0 ∨ b.1 = 1 := by
  rw [eq_readsOnce] at h
  rcases gI_or h with h | h
  · obtain ⟨p7, e7, h⟩ := gI_bd h
    obtain ⟨g11, h⟩ := gI_gd h
    rw [← Option.some.inj h]
    exact (bo_readsNumber (b := p7) e7)
  · rcases gI_or h with h | h
    · obtain ⟨p23, e23, h⟩ := gI_bd h
      obtain ⟨g8, h⟩ := gI_gd h
      rw [← Option.some.inj h]
      exact (bo_readsUpTo (b := p23) e23)
    · rcases gI_or h with h | h
      · obtain ⟨p42, e42, h⟩ := gI_bd h
        obtain ⟨g5, h⟩ := gI_gd h
        rw [← Option.some.inj h]
        exact (bo_readsUpTo (b := p42) e42)
      · obtain ⟨p42, e42, h⟩ := gI_bd h
        obtain ⟨g2, h⟩ := gI_gd h
        rw [← Option.some.inj h]
        exact (bo_readsUpTo (b := p42) e42)
theorem ok_readsOnce {sh : gS} {M : gM} {a1 : Int} {b : Int × gM} (hOK : gOK sh M) (h : F_readsOnce M a1 = some b) : gC (gr 3 64) yX12_readsOnce cX12_readsOnce 3 (some (.boolean)) [(4, 711), (0, a1)] sh M (gPq sh (some (0, b.1)) b.2) := by
  rw [eq_readsOnce] at h
  refine gC_ofA (lv := [_, _, _]) (by decide +kernel) (Nat.le_of_ble_eq_true rfl) rfl (fun hMw hav => ?_)
  refine g_iload_n (q0 := 1) (j := 1) rfl dX12_readsOnce_0 rfl ?_
  refine g_bipush (q0 := 3) rfl dX12_readsOnce_1 (k := ?_)
  refine g_icmp_ne (q0 := 6) (tgt := 13) rfl dX12_readsOnce_3 (by decide) (fun h3 => ?_) (fun h3 => ?_)
  · replace h := gI_neg h3 h
    refine g_iload_n (q0 := 14) (j := 1) rfl dX12_readsOnce_13 rfl ?_
    refine g_bipush (q0 := 16) rfl dX12_readsOnce_14 (k := ?_)
    refine g_icmp_ne (q0 := 19) (tgt := 29) rfl dX12_readsOnce_16 (by decide) (fun h16 => ?_) (fun h16 => ?_)
    · replace h := gI_neg h16 h
      refine g_aload_n (q0 := 30) (j := 0) rfl dX12_readsOnce_29 rfl ?_
      refine g_iconst (q0 := 31) rfl dX12_readsOnce_30 (k := ?_)
      refine g_iload_n (q0 := 32) (j := 1) rfl dX12_readsOnce_31 rfl ?_
      refine g_bipush (q0 := 34) rfl dX12_readsOnce_32 (k := ?_)
      refine g_icmp_ne (q0 := 37) (tgt := 41) rfl dX12_readsOnce_34 (by decide) (fun h34 => ?_) (fun h34 => ?_)
      · replace h := gI_neg h34 h
        refine g_iconst (q0 := 42) rfl dX12_readsOnce_41 (k := ?_)
        obtain ⟨p42, e42, h⟩ := gI_bd h
        refine g_callVq1 (as := [_, _]) (rest := []) mt_X12_readsUpTo mi_X12_readsUpTo se_X12_readsUpTo ml_X12_387 dX12_readsOnce_42 (q0 := 45) rfl rfl (sh_711 hOK) rfl rfl (ok_readsUpTo hOK e42) rfl ⟨by decide, by decide⟩ (Nat.le_of_ble_eq_true rfl) ⟨Nat.zero_le _, Nat.zero_le _⟩ ?_
        have hOK1 : gOK sh p42.2 := gOK_fr hOK (fr_readsUpTo (b := p42) e42) (by first | decide | (intro a ha; simp only [List.mem_cons, List.not_mem_nil, or_false] at ha; omega)) (by decide)
        refine g_istore_n (q0 := 46) (j := 2) (lv2 := [_, _, _]) rfl dX12_readsOnce_45 (by decide) rfl rfl ?_
        refine g_aload_n (q0 := 47) (j := 0) rfl dX12_readsOnce_46 rfl ?_
        refine g_getp (q0 := 50) (b := 729) rfl ff_X12_63 dX12_readsOnce_47 rfl hOK1 (by decide) (sh_711 hOK1) rfl (by decide) ?_
        refine g_sipush (q0 := 53) rfl dX12_readsOnce_50 (k := ?_)
        refine g_iload_n (q0 := 54) (j := 1) rfl dX12_readsOnce_53 rfl ?_
        refine g_iaddw (q0 := 55) rfl dX12_readsOnce_54 ?_
        refine g_aload_n (q0 := 56) (j := 0) rfl dX12_readsOnce_55 rfl ?_
        refine g_getf (q0 := 59) (t := 0) (fi := 22) rfl rfl ff_X12_275 dX12_readsOnce_56 rfl (sh_711 hOK1) ?_
        obtain ⟨g2, h⟩ := gI_gd h
        refine g_iast (q0 := 60) rfl dX12_readsOnce_59 (sh_729 hOK1) g2.1 g2.2 ?_
        have hOK3 : gOK sh (gU p42.2 729 (gw32 ((272 : Int) + a1)) (p42.2 711 22)) := gOK_i hOK1 (sh_729 hOK1)
        refine g_iload_n (q0 := 61) (j := 2) rfl dX12_readsOnce_60 rfl ?_
        rw [← Option.some.inj h]
        refine g_zreturn dX12_readsOnce_61 rfl (gnz (bo_readsUpTo (b := p42) e42)) ⟨Nat.zero_le _, Nat.zero_le _⟩ ?_
        exact ⟨rfl, rfl, rfl⟩
      · replace h := gI_pos h34 h
        refine g_iconst (q0 := 38) rfl dX12_readsOnce_37 (k := ?_)
        refine g_goto (tgt := 42) dX12_readsOnce_38 (by decide) ?_
        obtain ⟨p42, e42, h⟩ := gI_bd h
        refine g_callVq1 (as := [_, _]) (rest := []) mt_X12_readsUpTo mi_X12_readsUpTo se_X12_readsUpTo ml_X12_387 dX12_readsOnce_42 (q0 := 45) rfl rfl (sh_711 hOK) rfl rfl (ok_readsUpTo hOK e42) rfl ⟨by decide, by decide⟩ (Nat.le_of_ble_eq_true rfl) ⟨Nat.zero_le _, Nat.zero_le _⟩ ?_
        have hOK4 : gOK sh p42.2 := gOK_fr hOK (fr_readsUpTo (b := p42) e42) (by first | decide | (intro a ha; simp only [List.mem_cons, List.not_mem_nil, or_false] at ha; omega)) (by decide)
        refine g_istore_n (q0 := 46) (j := 2) (lv2 := [_, _, _]) rfl dX12_readsOnce_45 (by decide) rfl rfl ?_
        refine g_aload_n (q0 := 47) (j := 0) rfl dX12_readsOnce_46 rfl ?_
        refine g_getp (q0 := 50) (b := 729) rfl ff_X12_63 dX12_readsOnce_47 rfl hOK4 (by decide) (sh_711 hOK4) rfl (by decide) ?_
        refine g_sipush (q0 := 53) rfl dX12_readsOnce_50 (k := ?_)
        refine g_iload_n (q0 := 54) (j := 1) rfl dX12_readsOnce_53 rfl ?_
        refine g_iaddw (q0 := 55) rfl dX12_readsOnce_54 ?_
        refine g_aload_n (q0 := 56) (j := 0) rfl dX12_readsOnce_55 rfl ?_
        refine g_getf (q0 := 59) (t := 0) (fi := 22) rfl rfl ff_X12_275 dX12_readsOnce_56 rfl (sh_711 hOK4) ?_
        obtain ⟨g5, h⟩ := gI_gd h
        refine g_iast (q0 := 60) rfl dX12_readsOnce_59 (sh_729 hOK4) g5.1 g5.2 ?_
        have hOK6 : gOK sh (gU p42.2 729 (gw32 ((272 : Int) + a1)) (p42.2 711 22)) := gOK_i hOK4 (sh_729 hOK4)
        refine g_iload_n (q0 := 61) (j := 2) rfl dX12_readsOnce_60 rfl ?_
        rw [← Option.some.inj h]
        refine g_zreturn dX12_readsOnce_61 rfl (gnz (bo_readsUpTo (b := p42) e42)) ⟨Nat.zero_le _, Nat.zero_le _⟩ ?_
        exact ⟨rfl, rfl, rfl⟩
    · replace h := gI_pos h16 h
      refine g_aload_n (q0 := 20) (j := 0) rfl dX12_readsOnce_19 rfl ?_
      refine g_iconst (q0 := 21) rfl dX12_readsOnce_20 (k := ?_)
      refine g_bipush (q0 := 23) rfl dX12_readsOnce_21 (k := ?_)
      obtain ⟨p23, e23, h⟩ := gI_bd h
      refine g_callVq1 (as := [_, _]) (rest := []) mt_X12_readsUpTo mi_X12_readsUpTo se_X12_readsUpTo ml_X12_387 dX12_readsOnce_23 (q0 := 26) rfl rfl (sh_711 hOK) rfl rfl (ok_readsUpTo hOK e23) rfl ⟨by decide, by decide⟩ (Nat.le_of_ble_eq_true rfl) ⟨Nat.zero_le _, Nat.zero_le _⟩ ?_
      have hOK7 : gOK sh p23.2 := gOK_fr hOK (fr_readsUpTo (b := p23) e23) (by first | decide | (intro a ha; simp only [List.mem_cons, List.not_mem_nil, or_false] at ha; omega)) (by decide)
      refine g_goto (tgt := 45) dX12_readsOnce_26 (by decide) ?_
      refine g_istore_n (q0 := 46) (j := 2) (lv2 := [_, _, _]) rfl dX12_readsOnce_45 (by decide) rfl rfl ?_
      refine g_aload_n (q0 := 47) (j := 0) rfl dX12_readsOnce_46 rfl ?_
      refine g_getp (q0 := 50) (b := 729) rfl ff_X12_63 dX12_readsOnce_47 rfl hOK7 (by decide) (sh_711 hOK7) rfl (by decide) ?_
      refine g_sipush (q0 := 53) rfl dX12_readsOnce_50 (k := ?_)
      refine g_iload_n (q0 := 54) (j := 1) rfl dX12_readsOnce_53 rfl ?_
      refine g_iaddw (q0 := 55) rfl dX12_readsOnce_54 ?_
      refine g_aload_n (q0 := 56) (j := 0) rfl dX12_readsOnce_55 rfl ?_
      refine g_getf (q0 := 59) (t := 0) (fi := 22) rfl rfl ff_X12_275 dX12_readsOnce_56 rfl (sh_711 hOK7) ?_
      obtain ⟨g8, h⟩ := gI_gd h
      refine g_iast (q0 := 60) rfl dX12_readsOnce_59 (sh_729 hOK7) g8.1 g8.2 ?_
      have hOK9 : gOK sh (gU p23.2 729 (gw32 ((272 : Int) + a1)) (p23.2 711 22)) := gOK_i hOK7 (sh_729 hOK7)
      refine g_iload_n (q0 := 61) (j := 2) rfl dX12_readsOnce_60 rfl ?_
      rw [← Option.some.inj h]
      refine g_zreturn dX12_readsOnce_61 rfl (gnz (bo_readsUpTo (b := p23) e23)) ⟨Nat.zero_le _, Nat.zero_le _⟩ ?_
      exact ⟨rfl, rfl, rfl⟩
  · replace h := gI_pos h3 h
    refine g_aload_n (q0 := 7) (j := 0) rfl dX12_readsOnce_6 rfl ?_
    obtain ⟨p7, e7, h⟩ := gI_bd h
    refine g_callVq1 (as := []) (rest := []) mt_X12_readsNumber mi_X12_readsNumber se_X12_readsNumber ml_X12_284 dX12_readsOnce_7 (q0 := 10) rfl rfl (sh_711 hOK) rfl rfl (ok_readsNumber hOK e7) rfl ⟨by decide, by decide⟩ (Nat.le_of_ble_eq_true rfl) ⟨Nat.zero_le _, Nat.zero_le _⟩ ?_
    have hOK10 : gOK sh p7.2 := gOK_fr hOK (fr_readsNumber (b := p7) e7) (by first | decide | (intro a ha; simp only [List.mem_cons, List.not_mem_nil, or_false] at ha; omega)) (by decide)
    refine g_goto (tgt := 45) dX12_readsOnce_10 (by decide) ?_
    refine g_istore_n (q0 := 46) (j := 2) (lv2 := [_, _, _]) rfl dX12_readsOnce_45 (by decide) rfl rfl ?_
    refine g_aload_n (q0 := 47) (j := 0) rfl dX12_readsOnce_46 rfl ?_
    refine g_getp (q0 := 50) (b := 729) rfl ff_X12_63 dX12_readsOnce_47 rfl hOK10 (by decide) (sh_711 hOK10) rfl (by decide) ?_
    refine g_sipush (q0 := 53) rfl dX12_readsOnce_50 (k := ?_)
    refine g_iload_n (q0 := 54) (j := 1) rfl dX12_readsOnce_53 rfl ?_
    refine g_iaddw (q0 := 55) rfl dX12_readsOnce_54 ?_
    refine g_aload_n (q0 := 56) (j := 0) rfl dX12_readsOnce_55 rfl ?_
    refine g_getf (q0 := 59) (t := 0) (fi := 22) rfl rfl ff_X12_275 dX12_readsOnce_56 rfl (sh_711 hOK10) ?_
    obtain ⟨g11, h⟩ := gI_gd h
    refine g_iast (q0 := 60) rfl dX12_readsOnce_59 (sh_729 hOK10) g11.1 g11.2 ?_
    have hOK12 : gOK sh (gU p7.2 729 (gw32 ((272 : Int) + a1)) (p7.2 711 22)) := gOK_i hOK10 (sh_729 hOK10)
    refine g_iload_n (q0 := 61) (j := 2) rfl dX12_readsOnce_60 rfl ?_
    rw [← Option.some.inj h]
    refine g_zreturn dX12_readsOnce_61 rfl (gnz (bo_readsNumber (b := p7) e7)) ⟨Nat.zero_le _, Nat.zero_le _⟩ ?_
    exact ⟨rfl, rfl, rfl⟩
-- ==== readsList
theorem dX12_readsList_0 : decode cX12_readsList 0 = .ok (.iload_n 1, 1) := by decide +kernel
theorem dX12_readsList_1 : decode cX12_readsList 1 = .ok (.bipush 6, 2) := by decide +kernel
theorem dX12_readsList_3 : decode cX12_readsList 3 = .ok (.if_icmp .ne 8, 3) := by decide +kernel
theorem dX12_readsList_6 : decode cX12_readsList 6 = .ok (.aload_n 0, 1) := by decide +kernel
theorem dX12_readsList_7 : decode cX12_readsList 7 = .ok (.invokevirtual 401, 3) := by decide +kernel
theorem dX12_readsList_10 : decode cX12_readsList 10 = .ok (.ireturn, 1) := by decide +kernel
theorem dX12_readsList_11 : decode cX12_readsList 11 = .ok (.iload_n 1, 1) := by decide +kernel
theorem dX12_readsList_12 : decode cX12_readsList 12 = .ok (.iconst 3, 1) := by decide +kernel
theorem dX12_readsList_13 : decode cX12_readsList 13 = .ok (.if_icmp .lt 9, 3) := by decide +kernel
theorem dX12_readsList_16 : decode cX12_readsList 16 = .ok (.aload_n 0, 1) := by decide +kernel
theorem dX12_readsList_17 : decode cX12_readsList 17 = .ok (.iload_n 1, 1) := by decide +kernel
theorem dX12_readsList_18 : decode cX12_readsList 18 = .ok (.invokevirtual 404, 3) := by decide +kernel
theorem dX12_readsList_21 : decode cX12_readsList 21 = .ok (.ireturn, 1) := by decide +kernel
theorem dX12_readsList_22 : decode cX12_readsList 22 = .ok (.aload_n 0, 1) := by decide +kernel
theorem dX12_readsList_23 : decode cX12_readsList 23 = .ok (.iconst 4, 1) := by decide +kernel
theorem dX12_readsList_24 : decode cX12_readsList 24 = .ok (.invokevirtual 294, 3) := by decide +kernel
theorem dX12_readsList_27 : decode cX12_readsList 27 = .ok (.ifCond .eq 20, 3) := by decide +kernel
theorem dX12_readsList_30 : decode cX12_readsList 30 = .ok (.aload_n 0, 1) := by decide +kernel
theorem dX12_readsList_31 : decode cX12_readsList 31 = .ok (.iload_n 1, 1) := by decide +kernel
theorem dX12_readsList_32 : decode cX12_readsList 32 = .ok (.aload_n 0, 1) := by decide +kernel
theorem dX12_readsList_33 : decode cX12_readsList 33 = .ok (.getfield 278, 3) := by decide +kernel
theorem dX12_readsList_36 : decode cX12_readsList 36 = .ok (.iconst 0, 1) := by decide +kernel
theorem dX12_readsList_37 : decode cX12_readsList 37 = .ok (.invokevirtual 384, 3) := by decide +kernel
theorem dX12_readsList_40 : decode cX12_readsList 40 = .ok (.ifCond .eq 7, 3) := by decide +kernel
theorem dX12_readsList_43 : decode cX12_readsList 43 = .ok (.iconst 1, 1) := by decide +kernel
theorem dX12_readsList_44 : decode cX12_readsList 44 = .ok (.goto 4, 3) := by decide +kernel
theorem dX12_readsList_47 : decode cX12_readsList 47 = .ok (.iconst 0, 1) := by decide +kernel
theorem dX12_readsList_48 : decode cX12_readsList 48 = .ok (.ireturn, 1) := by decide +kernel
noncomputable def F_readsList (M : gM) (a1 : Int) : Option (Int × gM) := (if a1 = 6 then
    (Option.bind (F_readsGraft M) (fun p7 =>
      some (p7.1, p7.2)))
  else
    (if a1 < 3 then
      (Option.bind (F_readsPath M 4) (fun p24 =>
        (if p24.1 = 0 then
          some (0, p24.2)
        else
          (Option.bind (F_adds p24.2 a1 (p24.2 711 23) 0) (fun p37 =>
            (if p37.1 = 0 then
              some (0, p37.2)
            else
              some (1, p37.2)))))))
    else
      (Option.bind (F_readsPair M a1) (fun p18 =>
        some (p18.1, p18.2)))))
theorem eq_readsList (M : gM) (a1 : Int) : F_readsList M a1 = (if a1 = 6 then
    (Option.bind (F_readsGraft M) (fun p7 =>
      some (p7.1, p7.2)))
  else
    (if a1 < 3 then
      (Option.bind (F_readsPath M 4) (fun p24 =>
        (if p24.1 = 0 then
          some (0, p24.2)
        else
          (Option.bind (F_adds p24.2 a1 (p24.2 711 23) 0) (fun p37 =>
            (if p37.1 = 0 then
              some (0, p37.2)
            else
              some (1, p37.2)))))))
    else
      (Option.bind (F_readsPair M a1) (fun p18 =>
        some (p18.1, p18.2))))) := rfl
theorem fr_readsList {M : gM} {a1 : Int} {b : Int × gM} (h : F_readsList M a1 = some b) : gFr [729] [19, 21, 22, 23] M b.2 := by
  rw [eq_readsList] at h
  rcases gI_or h with h | h
  · obtain ⟨p7, e7, h⟩ := gI_bd h
    rw [← Option.some.inj h]
    exact (gFr_t (gFr_r [729] [19, 21, 22, 23] _) (fr_readsGraft (b := p7) e7) (by first | decide | simp) (by decide))
  · rcases gI_or h with h | h
    · obtain ⟨p24, e24, h⟩ := gI_bd h
      rcases gI_or h with h | h
      · rw [← Option.some.inj h]
        exact (gFr_t (gFr_r [729] [19, 21, 22, 23] _) (fr_readsPath (b := p24) e24) (by first | decide | simp) (by decide))
      · obtain ⟨p37, e37, h⟩ := gI_bd h
        rcases gI_or h with h | h
        · rw [← Option.some.inj h]
          exact (gFr_t (gFr_t (gFr_r [729] [19, 21, 22, 23] _) (fr_readsPath (b := p24) e24) (by first | decide | simp) (by decide)) (fr_adds (b := p37) e37) (by first | decide | simp) (by decide))
        · rw [← Option.some.inj h]
          exact (gFr_t (gFr_t (gFr_r [729] [19, 21, 22, 23] _) (fr_readsPath (b := p24) e24) (by first | decide | simp) (by decide)) (fr_adds (b := p37) e37) (by first | decide | simp) (by decide))
    · obtain ⟨p18, e18, h⟩ := gI_bd h
      rw [← Option.some.inj h]
      exact (gFr_t (gFr_r [729] [19, 21, 22, 23] _) (fr_readsPair (b := p18) e18) (by first | decide | simp) (by decide))
theorem bo_readsList {M : gM} {a1 : Int} {b : Int × gM} (h : F_readsList M a1 = some b) : b.1 = 0 ∨ b.1 = 1 := by
  rw [eq_readsList] at h
  rcases gI_or h with h | h
  · obtain ⟨p7, e7, h⟩ := gI_bd h
    rw [← Option.some.inj h]
    exact (bo_readsGraft (b := p7) e7)
  · rcases gI_or h with h | h
    · obtain ⟨p24, e24, h⟩ := gI_bd h
      rcases gI_or h with h | h
      · rw [← Option.some.inj h]
        exact (Or.inl rfl)
      · obtain ⟨p37, e37, h⟩ := gI_bd h
        rcases gI_or h with h | h
        · rw [← Option.some.inj h]
          exact (Or.inl rfl)
        · rw [← Option.some.inj h]
          exact (Or.inr rfl)
    · obtain ⟨p18, e18, h⟩ := gI_bd h
      rw [← Option.some.inj h]
      exact (bo_readsPair (b := p18) e18)
theorem ok_readsList {sh : gS} {M : gM} {a1 : Int} {b : Int × gM} (hOK : gOK sh M) (h : F_readsList M a1 = some b) : gC (gr 6 128) yX12_readsList cX12_readsList 2 (some (.boolean)) [(4, 711), (0, a1)] sh M (gPq sh (some (0, b.1)) b.2) := by
  rw [eq_readsList] at h
  refine gC_ofA (lv := [_, _]) (by decide +kernel) (Nat.le_of_ble_eq_true rfl) rfl (fun hMw hav => ?_)
  refine g_iload_n (q0 := 1) (j := 1) rfl dX12_readsList_0 rfl ?_
  refine g_bipush (q0 := 3) rfl dX12_readsList_1 (k := ?_)
  refine g_icmp_ne (q0 := 6) (tgt := 11) rfl dX12_readsList_3 (by decide) (fun h3 => ?_) (fun h3 => ?_)
  · replace h := gI_neg h3 h
    refine g_iload_n (q0 := 12) (j := 1) rfl dX12_readsList_11 rfl ?_
    refine g_iconst (q0 := 13) rfl dX12_readsList_12 (k := ?_)
    refine g_icmp_lt (q0 := 16) (tgt := 22) rfl dX12_readsList_13 (by decide) (fun h13 => ?_) (fun h13 => ?_)
    · replace h := gI_pos h13 h
      refine g_aload_n (q0 := 23) (j := 0) rfl dX12_readsList_22 rfl ?_
      refine g_iconst (q0 := 24) rfl dX12_readsList_23 (k := ?_)
      obtain ⟨p24, e24, h⟩ := gI_bd h
      refine g_callVq1 (as := [_]) (rest := []) mt_X12_readsPath mi_X12_readsPath se_X12_readsPath ml_X12_294 dX12_readsList_24 (q0 := 27) rfl rfl (sh_711 hOK) rfl rfl (ok_readsPath hOK e24) rfl ⟨by decide, by decide⟩ (Nat.le_of_ble_eq_true rfl) ⟨Nat.zero_le _, Nat.zero_le _⟩ ?_
      have hOK1 : gOK sh p24.2 := gOK_fr hOK (fr_readsPath (b := p24) e24) (by first | decide | (intro a ha; simp only [List.mem_cons, List.not_mem_nil, or_false] at ha; omega)) (by decide)
      refine g_if_eq (q0 := 30) (tgt := 47) rfl dX12_readsList_27 (by decide) (fun h27 => ?_) (fun h27 => ?_)
      · replace h := gI_pos h27 h
        refine g_iconst (q0 := 48) rfl dX12_readsList_47 (k := ?_)
        rw [← Option.some.inj h]
        refine g_zreturn dX12_readsList_48 rfl (gnz (Or.inl rfl)) ⟨Nat.zero_le _, Nat.zero_le _⟩ ?_
        exact ⟨rfl, rfl, rfl⟩
      · replace h := gI_neg h27 h
        refine g_aload_n (q0 := 31) (j := 0) rfl dX12_readsList_30 rfl ?_
        refine g_iload_n (q0 := 32) (j := 1) rfl dX12_readsList_31 rfl ?_
        refine g_aload_n (q0 := 33) (j := 0) rfl dX12_readsList_32 rfl ?_
        refine g_getf (q0 := 36) (t := 0) (fi := 23) rfl rfl ff_X12_278 dX12_readsList_33 rfl (sh_711 hOK1) ?_
        refine g_iconst (q0 := 37) rfl dX12_readsList_36 (k := ?_)
        obtain ⟨p37, e37, h⟩ := gI_bd h
        refine g_callVq1 (as := [_, _, _]) (rest := []) mt_X12_adds mi_X12_adds se_X12_adds ml_X12_384 dX12_readsList_37 (q0 := 40) rfl rfl (sh_711 hOK1) rfl rfl (ok_adds hOK1 e37) rfl ⟨by decide, by decide⟩ (Nat.le_of_ble_eq_true rfl) ⟨Nat.zero_le _, Nat.zero_le _⟩ ?_
        have hOK2 : gOK sh p37.2 := gOK_fr hOK1 (fr_adds (b := p37) e37) (by first | decide | (intro a ha; simp only [List.mem_cons, List.not_mem_nil, or_false] at ha; omega)) (by decide)
        refine g_if_eq (q0 := 43) (tgt := 47) rfl dX12_readsList_40 (by decide) (fun h40 => ?_) (fun h40 => ?_)
        · replace h := gI_pos h40 h
          refine g_iconst (q0 := 48) rfl dX12_readsList_47 (k := ?_)
          rw [← Option.some.inj h]
          refine g_zreturn dX12_readsList_48 rfl (gnz (Or.inl rfl)) ⟨Nat.zero_le _, Nat.zero_le _⟩ ?_
          exact ⟨rfl, rfl, rfl⟩
        · replace h := gI_neg h40 h
          refine g_iconst (q0 := 44) rfl dX12_readsList_43 (k := ?_)
          refine g_goto (tgt := 48) dX12_readsList_44 (by decide) ?_
          rw [← Option.some.inj h]
          refine g_zreturn dX12_readsList_48 rfl (gnz (Or.inr rfl)) ⟨Nat.zero_le _, Nat.zero_le _⟩ ?_
          exact ⟨rfl, rfl, rfl⟩
    · replace h := gI_neg (Int.not_lt.mpr h13) h
      refine g_aload_n (q0 := 17) (j := 0) rfl dX12_readsList_16 rfl ?_
      refine g_iload_n (q0 := 18) (j := 1) rfl dX12_readsList_17 rfl ?_
      obtain ⟨p18, e18, h⟩ := gI_bd h
      refine g_callVq1 (as := [_]) (rest := []) mt_X12_readsPair mi_X12_readsPair se_X12_readsPair ml_X12_404 dX12_readsList_18 (q0 := 21) rfl rfl (sh_711 hOK) rfl rfl (ok_readsPair hOK e18) rfl ⟨by decide, by decide⟩ (Nat.le_of_ble_eq_true rfl) ⟨Nat.zero_le _, Nat.zero_le _⟩ ?_
      have hOK3 : gOK sh p18.2 := gOK_fr hOK (fr_readsPair (b := p18) e18) (by first | decide | (intro a ha; simp only [List.mem_cons, List.not_mem_nil, or_false] at ha; omega)) (by decide)
      rw [← Option.some.inj h]
      refine g_zreturn dX12_readsList_21 rfl (gnz (bo_readsPair (b := p18) e18)) ⟨Nat.zero_le _, Nat.zero_le _⟩ ?_
      exact ⟨rfl, rfl, rfl⟩
  · replace h := gI_pos h3 h
    refine g_aload_n (q0 := 7) (j := 0) rfl dX12_readsList_6 rfl ?_
    obtain ⟨p7, e7, h⟩ := gI_bd h
    refine g_callVq1 (as := []) (rest := []) mt_X12_readsGraft mi_X12_readsGraft se_X12_readsGraft ml_X12_401 dX12_readsList_7 (q0 := 10) rfl rfl (sh_711 hOK) rfl rfl (ok_readsGraft hOK e7) rfl ⟨by decide, by decide⟩ (Nat.le_of_ble_eq_true rfl) ⟨Nat.zero_le _, Nat.zero_le _⟩ ?_
    have hOK4 : gOK sh p7.2 := gOK_fr hOK (fr_readsGraft (b := p7) e7) (by first | decide | (intro a ha; simp only [List.mem_cons, List.not_mem_nil, or_false] at ha; omega)) (by decide)
    rw [← Option.some.inj h]
    refine g_zreturn dX12_readsList_10 rfl (gnz (bo_readsGraft (b := p7) e7)) ⟨Nat.zero_le _, Nat.zero_le _⟩ ?_
    exact ⟨rfl, rfl, rfl⟩
-- ==== readsSkip
theorem dX12_readsSkip_0 : decode cX12_readsSkip 0 = .ok (.aload_n 0, 1) := by decide +kernel
theorem dX12_readsSkip_1 : decode cX12_readsSkip 1 = .ok (.iconst 0, 1) := by decide +kernel
theorem dX12_readsSkip_2 : decode cX12_readsSkip 2 = .ok (.bipush 9, 2) := by decide +kernel
theorem dX12_readsSkip_4 : decode cX12_readsSkip 4 = .ok (.invokevirtual 387, 3) := by decide +kernel
theorem dX12_readsSkip_7 : decode cX12_readsSkip 7 = .ok (.ifCond .ne 5, 3) := by decide +kernel
theorem dX12_readsSkip_10 : decode cX12_readsSkip 10 = .ok (.iconst 0, 1) := by decide +kernel
theorem dX12_readsSkip_11 : decode cX12_readsSkip 11 = .ok (.ireturn, 1) := by decide +kernel
theorem dX12_readsSkip_12 : decode cX12_readsSkip 12 = .ok (.aload_n 0, 1) := by decide +kernel
theorem dX12_readsSkip_13 : decode cX12_readsSkip 13 = .ok (.getfield 63, 3) := by decide +kernel
theorem dX12_readsSkip_16 : decode cX12_readsSkip 16 = .ok (.sipush 282, 3) := by decide +kernel
theorem dX12_readsSkip_19 : decode cX12_readsSkip 19 = .ok (.aload_n 0, 1) := by decide +kernel
theorem dX12_readsSkip_20 : decode cX12_readsSkip 20 = .ok (.getfield 63, 3) := by decide +kernel
theorem dX12_readsSkip_23 : decode cX12_readsSkip 23 = .ok (.sipush 282, 3) := by decide +kernel
theorem dX12_readsSkip_26 : decode cX12_readsSkip 26 = .ok (.iaload, 1) := by decide +kernel
theorem dX12_readsSkip_27 : decode cX12_readsSkip 27 = .ok (.iconst 1, 1) := by decide +kernel
theorem dX12_readsSkip_28 : decode cX12_readsSkip 28 = .ok (.aload_n 0, 1) := by decide +kernel
theorem dX12_readsSkip_29 : decode cX12_readsSkip 29 = .ok (.getfield 275, 3) := by decide +kernel
theorem dX12_readsSkip_32 : decode cX12_readsSkip 32 = .ok (.ishl, 1) := by decide +kernel
theorem dX12_readsSkip_33 : decode cX12_readsSkip 33 = .ok (.ior, 1) := by decide +kernel
theorem dX12_readsSkip_34 : decode cX12_readsSkip 34 = .ok (.iastore, 1) := by decide +kernel
theorem dX12_readsSkip_35 : decode cX12_readsSkip 35 = .ok (.iconst 1, 1) := by decide +kernel
theorem dX12_readsSkip_36 : decode cX12_readsSkip 36 = .ok (.ireturn, 1) := by decide +kernel
noncomputable def F_readsSkip (M : gM) : Option (Int × gM) := (Option.bind (F_readsUpTo M 0 9) (fun p4 =>
    (if p4.1 = 0 then
      some (0, p4.2)
    else
      some (1, (gU p4.2 729 282 (gor (p4.2 729 282) (gshl 1 (p4.2 711 22))))))))
theorem eq_readsSkip (M : gM) : F_readsSkip M = (Option.bind (F_readsUpTo M 0 9) (fun p4 =>
    (if p4.1 = 0 then
      some (0, p4.2)
    else
      some (1, (gU p4.2 729 282 (gor (p4.2 729 282) (gshl 1 (p4.2 711 22)))))))) := rfl
theorem fr_readsSkip {M : gM} {b : Int × gM} (h : F_readsSkip M = some b) : gFr [729] [19, 21, 22] M b.2 := by
  rw [eq_readsSkip] at h
  obtain ⟨p4, e4, h⟩ := gI_bd h
  rcases gI_or h with h | h
  · rw [← Option.some.inj h]
    exact (gFr_t (gFr_r [729] [19, 21, 22] _) (fr_readsUpTo (b := p4) e4) (by first | decide | simp) (by decide))
  · rw [← Option.some.inj h]
    exact (gFr_a (gFr_t (gFr_r [729] [19, 21, 22] _) (fr_readsUpTo (b := p4) e4) (by first | decide | simp) (by decide)) (.head _) (by decide))
theorem bo_readsSkip {M : gM} {b : Int × gM} (h : F_readsSkip M = some b) : b.1 = 0 ∨ b.1 = 1 := by
  rw [eq_readsSkip] at h
  obtain ⟨p4, e4, h⟩ := gI_bd h
  rcases gI_or h with h | h
  · rw [← Option.some.inj h]
    exact (Or.inl rfl)
  · rw [← Option.some.inj h]
    exact (Or.inr rfl)
theorem ok_readsSkip {sh : gS} {M : gM} {b : Int × gM} (hOK : gOK sh M) (h : F_readsSkip M = some b) : gC (gr 3 64) yX12_readsSkip cX12_readsSkip 1 (some (.boolean)) [(4, 711)] sh M (gPq sh (some (0, b.1)) b.2) := by
  rw [eq_readsSkip] at h
  refine gC_ofA (lv := [_]) (by decide +kernel) (Nat.le_of_ble_eq_true rfl) rfl (fun hMw hav => ?_)
  refine g_aload_n (q0 := 1) (j := 0) rfl dX12_readsSkip_0 rfl ?_
  refine g_iconst (q0 := 2) rfl dX12_readsSkip_1 (k := ?_)
  refine g_bipush (q0 := 4) rfl dX12_readsSkip_2 (k := ?_)
  obtain ⟨p4, e4, h⟩ := gI_bd h
  refine g_callVq1 (as := [_, _]) (rest := []) mt_X12_readsUpTo mi_X12_readsUpTo se_X12_readsUpTo ml_X12_387 dX12_readsSkip_4 (q0 := 7) rfl rfl (sh_711 hOK) rfl rfl (ok_readsUpTo hOK e4) rfl ⟨by decide, by decide⟩ (Nat.le_of_ble_eq_true rfl) ⟨Nat.zero_le _, Nat.zero_le _⟩ ?_
  have hOK1 : gOK sh p4.2 := gOK_fr hOK (fr_readsUpTo (b := p4) e4) (by first | decide | (intro a ha; simp only [List.mem_cons, List.not_mem_nil, or_false] at ha; omega)) (by decide)
  refine g_if_ne (q0 := 10) (tgt := 12) rfl dX12_readsSkip_7 (by decide) (fun h7 => ?_) (fun h7 => ?_)
  · replace h := gI_neg h7 h
    refine g_aload_n (q0 := 13) (j := 0) rfl dX12_readsSkip_12 rfl ?_
    refine g_getp (q0 := 16) (b := 729) rfl ff_X12_63 dX12_readsSkip_13 rfl hOK1 (by decide) (sh_711 hOK1) rfl (by decide) ?_
    refine g_sipush (q0 := 19) rfl dX12_readsSkip_16 (k := ?_)
    refine g_aload_n (q0 := 20) (j := 0) rfl dX12_readsSkip_19 rfl ?_
    refine g_getp (q0 := 23) (b := 729) rfl ff_X12_63 dX12_readsSkip_20 rfl hOK1 (by decide) (sh_711 hOK1) rfl (by decide) ?_
    refine g_sipush (q0 := 26) rfl dX12_readsSkip_23 (k := ?_)
    refine g_iald (q0 := 27) rfl dX12_readsSkip_26 (sh_729 hOK1) (by decide) (by decide) ?_
    refine g_iconst (q0 := 28) rfl dX12_readsSkip_27 (k := ?_)
    refine g_aload_n (q0 := 29) (j := 0) rfl dX12_readsSkip_28 rfl ?_
    refine g_getf (q0 := 32) (t := 0) (fi := 22) rfl rfl ff_X12_275 dX12_readsSkip_29 rfl (sh_711 hOK1) ?_
    refine g_ishl (q0 := 33) rfl dX12_readsSkip_32 ?_
    refine g_ior (q0 := 34) rfl dX12_readsSkip_33 ?_
    refine g_iast (q0 := 35) rfl dX12_readsSkip_34 (sh_729 hOK1) (by decide) (by decide) ?_
    have hOK2 : gOK sh (gU p4.2 729 282 (gor (p4.2 729 282) (gshl 1 (p4.2 711 22)))) := gOK_i hOK1 (sh_729 hOK1)
    refine g_iconst (q0 := 36) rfl dX12_readsSkip_35 (k := ?_)
    rw [← Option.some.inj h]
    refine g_zreturn dX12_readsSkip_36 rfl (gnz (Or.inr rfl)) ⟨Nat.zero_le _, Nat.zero_le _⟩ ?_
    exact ⟨rfl, rfl, rfl⟩
  · replace h := gI_pos h7 h
    refine g_iconst (q0 := 11) rfl dX12_readsSkip_10 (k := ?_)
    rw [← Option.some.inj h]
    refine g_zreturn dX12_readsSkip_11 rfl (gnz (Or.inl rfl)) ⟨Nat.zero_le _, Nat.zero_le _⟩ ?_
    exact ⟨rfl, rfl, rfl⟩
-- ==== readsLine
theorem dX12_readsLine_0 : decode cX12_readsLine 0 = .ok (.aload_n 0, 1) := by decide +kernel
theorem dX12_readsLine_1 : decode cX12_readsLine 1 = .ok (.invokevirtual 407, 3) := by decide +kernel
theorem dX12_readsLine_4 : decode cX12_readsLine 4 = .ok (.aload_n 0, 1) := by decide +kernel
theorem dX12_readsLine_5 : decode cX12_readsLine 5 = .ok (.getfield 369, 3) := by decide +kernel
theorem dX12_readsLine_8 : decode cX12_readsLine 8 = .ok (.istore_n 1, 1) := by decide +kernel
theorem dX12_readsLine_9 : decode cX12_readsLine 9 = .ok (.iload_n 1, 1) := by decide +kernel
theorem dX12_readsLine_10 : decode cX12_readsLine 10 = .ok (.invokestatic 410, 3) := by decide +kernel
theorem dX12_readsLine_13 : decode cX12_readsLine 13 = .ok (.istore_n 2, 1) := by decide +kernel
theorem dX12_readsLine_14 : decode cX12_readsLine 14 = .ok (.iload_n 1, 1) := by decide +kernel
theorem dX12_readsLine_15 : decode cX12_readsLine 15 = .ok (.invokestatic 413, 3) := by decide +kernel
theorem dX12_readsLine_18 : decode cX12_readsLine 18 = .ok (.istore_n 3, 1) := by decide +kernel
theorem dX12_readsLine_19 : decode cX12_readsLine 19 = .ok (.iload_n 2, 1) := by decide +kernel
theorem dX12_readsLine_20 : decode cX12_readsLine 20 = .ok (.ifCond .ne 31, 3) := by decide +kernel
theorem dX12_readsLine_23 : decode cX12_readsLine 23 = .ok (.iload_n 3, 1) := by decide +kernel
theorem dX12_readsLine_24 : decode cX12_readsLine 24 = .ok (.ifCond .ne 27, 3) := by decide +kernel
theorem dX12_readsLine_27 : decode cX12_readsLine 27 = .ok (.iload_n 1, 1) := by decide +kernel
theorem dX12_readsLine_28 : decode cX12_readsLine 28 = .ok (.ldc_w 416, 3) := by decide +kernel
theorem dX12_readsLine_31 : decode cX12_readsLine 31 = .ok (.if_icmp .eq 20, 3) := by decide +kernel
theorem dX12_readsLine_34 : decode cX12_readsLine 34 = .ok (.iload_n 1, 1) := by decide +kernel
theorem dX12_readsLine_35 : decode cX12_readsLine 35 = .ok (.ldc_w 417, 3) := by decide +kernel
theorem dX12_readsLine_38 : decode cX12_readsLine 38 = .ok (.if_icmp .eq 13, 3) := by decide +kernel
theorem dX12_readsLine_41 : decode cX12_readsLine 41 = .ok (.aload_n 0, 1) := by decide +kernel
theorem dX12_readsLine_42 : decode cX12_readsLine 42 = .ok (.iconst 1, 1) := by decide +kernel
theorem dX12_readsLine_43 : decode cX12_readsLine 43 = .ok (.aload_n 0, 1) := by decide +kernel
theorem dX12_readsLine_44 : decode cX12_readsLine 44 = .ok (.getfield 366, 3) := by decide +kernel
theorem dX12_readsLine_47 : decode cX12_readsLine 47 = .ok (.invokevirtual 269, 3) := by decide +kernel
theorem dX12_readsLine_50 : decode cX12_readsLine 50 = .ok (.ireturn, 1) := by decide +kernel
theorem dX12_readsLine_51 : decode cX12_readsLine 51 = .ok (.iload_n 2, 1) := by decide +kernel
theorem dX12_readsLine_52 : decode cX12_readsLine 52 = .ok (.ifCond .le 27, 3) := by decide +kernel
theorem dX12_readsLine_55 : decode cX12_readsLine 55 = .ok (.aload_n 0, 1) := by decide +kernel
theorem dX12_readsLine_56 : decode cX12_readsLine 56 = .ok (.getfield 63, 3) := by decide +kernel
theorem dX12_readsLine_59 : decode cX12_readsLine 59 = .ok (.sipush 274, 3) := by decide +kernel
theorem dX12_readsLine_62 : decode cX12_readsLine 62 = .ok (.iload_n 2, 1) := by decide +kernel
theorem dX12_readsLine_63 : decode cX12_readsLine 63 = .ok (.iadd, 1) := by decide +kernel
theorem dX12_readsLine_64 : decode cX12_readsLine 64 = .ok (.iaload, 1) := by decide +kernel
theorem dX12_readsLine_65 : decode cX12_readsLine 65 = .ok (.iconst 4, 1) := by decide +kernel
theorem dX12_readsLine_66 : decode cX12_readsLine 66 = .ok (.if_icmp .ne 13, 3) := by decide +kernel
theorem dX12_readsLine_69 : decode cX12_readsLine 69 = .ok (.aload_n 0, 1) := by decide +kernel
theorem dX12_readsLine_70 : decode cX12_readsLine 70 = .ok (.iconst 4, 1) := by decide +kernel
theorem dX12_readsLine_71 : decode cX12_readsLine 71 = .ok (.aload_n 0, 1) := by decide +kernel
theorem dX12_readsLine_72 : decode cX12_readsLine 72 = .ok (.getfield 366, 3) := by decide +kernel
theorem dX12_readsLine_75 : decode cX12_readsLine 75 = .ok (.invokevirtual 269, 3) := by decide +kernel
theorem dX12_readsLine_78 : decode cX12_readsLine 78 = .ok (.ireturn, 1) := by decide +kernel
theorem dX12_readsLine_79 : decode cX12_readsLine 79 = .ok (.iload_n 3, 1) := by decide +kernel
theorem dX12_readsLine_80 : decode cX12_readsLine 80 = .ok (.ifCond .le 29, 3) := by decide +kernel
theorem dX12_readsLine_83 : decode cX12_readsLine 83 = .ok (.aload_n 0, 1) := by decide +kernel
theorem dX12_readsLine_84 : decode cX12_readsLine 84 = .ok (.getfield 63, 3) := by decide +kernel
theorem dX12_readsLine_87 : decode cX12_readsLine 87 = .ok (.sipush 289, 3) := by decide +kernel
theorem dX12_readsLine_90 : decode cX12_readsLine 90 = .ok (.iaload, 1) := by decide +kernel
theorem dX12_readsLine_91 : decode cX12_readsLine 91 = .ok (.iload_n 3, 1) := by decide +kernel
theorem dX12_readsLine_92 : decode cX12_readsLine 92 = .ok (.invokestatic 418, 3) := by decide +kernel
theorem dX12_readsLine_95 : decode cX12_readsLine 95 = .ok (.ifCond .eq 14, 3) := by decide +kernel
theorem dX12_readsLine_98 : decode cX12_readsLine 98 = .ok (.aload_n 0, 1) := by decide +kernel
theorem dX12_readsLine_99 : decode cX12_readsLine 99 = .ok (.bipush 6, 2) := by decide +kernel
theorem dX12_readsLine_101 : decode cX12_readsLine 101 = .ok (.aload_n 0, 1) := by decide +kernel
theorem dX12_readsLine_102 : decode cX12_readsLine 102 = .ok (.getfield 366, 3) := by decide +kernel
theorem dX12_readsLine_105 : decode cX12_readsLine 105 = .ok (.invokevirtual 269, 3) := by decide +kernel
theorem dX12_readsLine_108 : decode cX12_readsLine 108 = .ok (.ireturn, 1) := by decide +kernel
theorem dX12_readsLine_109 : decode cX12_readsLine 109 = .ok (.iload_n 3, 1) := by decide +kernel
theorem dX12_readsLine_110 : decode cX12_readsLine 110 = .ok (.ifCond .le 23, 3) := by decide +kernel
theorem dX12_readsLine_113 : decode cX12_readsLine 113 = .ok (.aload_n 0, 1) := by decide +kernel
theorem dX12_readsLine_114 : decode cX12_readsLine 114 = .ok (.getfield 63, 3) := by decide +kernel
theorem dX12_readsLine_117 : decode cX12_readsLine 117 = .ok (.sipush 289, 3) := by decide +kernel
theorem dX12_readsLine_120 : decode cX12_readsLine 120 = .ok (.aload_n 0, 1) := by decide +kernel
theorem dX12_readsLine_121 : decode cX12_readsLine 121 = .ok (.getfield 63, 3) := by decide +kernel
theorem dX12_readsLine_124 : decode cX12_readsLine 124 = .ok (.sipush 289, 3) := by decide +kernel
theorem dX12_readsLine_127 : decode cX12_readsLine 127 = .ok (.iaload, 1) := by decide +kernel
theorem dX12_readsLine_128 : decode cX12_readsLine 128 = .ok (.iconst 1, 1) := by decide +kernel
theorem dX12_readsLine_129 : decode cX12_readsLine 129 = .ok (.iload_n 3, 1) := by decide +kernel
theorem dX12_readsLine_130 : decode cX12_readsLine 130 = .ok (.ishl, 1) := by decide +kernel
theorem dX12_readsLine_131 : decode cX12_readsLine 131 = .ok (.ior, 1) := by decide +kernel
theorem dX12_readsLine_132 : decode cX12_readsLine 132 = .ok (.iastore, 1) := by decide +kernel
theorem dX12_readsLine_133 : decode cX12_readsLine 133 = .ok (.aload_n 0, 1) := by decide +kernel
theorem dX12_readsLine_134 : decode cX12_readsLine 134 = .ok (.getfield 63, 3) := by decide +kernel
theorem dX12_readsLine_137 : decode cX12_readsLine 137 = .ok (.sipush 288, 3) := by decide +kernel
theorem dX12_readsLine_140 : decode cX12_readsLine 140 = .ok (.aload_n 0, 1) := by decide +kernel
theorem dX12_readsLine_141 : decode cX12_readsLine 141 = .ok (.getfield 63, 3) := by decide +kernel
theorem dX12_readsLine_144 : decode cX12_readsLine 144 = .ok (.sipush 288, 3) := by decide +kernel
theorem dX12_readsLine_147 : decode cX12_readsLine 147 = .ok (.iaload, 1) := by decide +kernel
theorem dX12_readsLine_148 : decode cX12_readsLine 148 = .ok (.iconst 1, 1) := by decide +kernel
theorem dX12_readsLine_149 : decode cX12_readsLine 149 = .ok (.iadd, 1) := by decide +kernel
theorem dX12_readsLine_150 : decode cX12_readsLine 150 = .ok (.iastore, 1) := by decide +kernel
theorem dX12_readsLine_151 : decode cX12_readsLine 151 = .ok (.aload_n 0, 1) := by decide +kernel
theorem dX12_readsLine_152 : decode cX12_readsLine 152 = .ok (.bipush 58, 2) := by decide +kernel
theorem dX12_readsLine_154 : decode cX12_readsLine 154 = .ok (.invokevirtual 297, 3) := by decide +kernel
theorem dX12_readsLine_157 : decode cX12_readsLine 157 = .ok (.ifCond .ne 5, 3) := by decide +kernel
theorem dX12_readsLine_160 : decode cX12_readsLine 160 = .ok (.iconst 0, 1) := by decide +kernel
theorem dX12_readsLine_161 : decode cX12_readsLine 161 = .ok (.ireturn, 1) := by decide +kernel
theorem dX12_readsLine_162 : decode cX12_readsLine 162 = .ok (.iload_n 2, 1) := by decide +kernel
theorem dX12_readsLine_163 : decode cX12_readsLine 163 = .ok (.ifCond .le 11, 3) := by decide +kernel
theorem dX12_readsLine_166 : decode cX12_readsLine 166 = .ok (.aload_n 0, 1) := by decide +kernel
theorem dX12_readsLine_167 : decode cX12_readsLine 167 = .ok (.iload_n 2, 1) := by decide +kernel
theorem dX12_readsLine_168 : decode cX12_readsLine 168 = .ok (.invokevirtual 421, 3) := by decide +kernel
theorem dX12_readsLine_171 : decode cX12_readsLine 171 = .ok (.goto 33, 3) := by decide +kernel
theorem dX12_readsLine_174 : decode cX12_readsLine 174 = .ok (.iload_n 3, 1) := by decide +kernel
theorem dX12_readsLine_175 : decode cX12_readsLine 175 = .ok (.ifCond .le 11, 3) := by decide +kernel
theorem dX12_readsLine_178 : decode cX12_readsLine 178 = .ok (.aload_n 0, 1) := by decide +kernel
theorem dX12_readsLine_179 : decode cX12_readsLine 179 = .ok (.iload_n 3, 1) := by decide +kernel
theorem dX12_readsLine_180 : decode cX12_readsLine 180 = .ok (.invokevirtual 424, 3) := by decide +kernel
theorem dX12_readsLine_183 : decode cX12_readsLine 183 = .ok (.goto 21, 3) := by decide +kernel
theorem dX12_readsLine_186 : decode cX12_readsLine 186 = .ok (.iload_n 1, 1) := by decide +kernel
theorem dX12_readsLine_187 : decode cX12_readsLine 187 = .ok (.ldc_w 416, 3) := by decide +kernel
theorem dX12_readsLine_190 : decode cX12_readsLine 190 = .ok (.if_icmp .ne 10, 3) := by decide +kernel
theorem dX12_readsLine_193 : decode cX12_readsLine 193 = .ok (.aload_n 0, 1) := by decide +kernel
theorem dX12_readsLine_194 : decode cX12_readsLine 194 = .ok (.invokevirtual 427, 3) := by decide +kernel
theorem dX12_readsLine_197 : decode cX12_readsLine 197 = .ok (.goto 7, 3) := by decide +kernel
theorem dX12_readsLine_200 : decode cX12_readsLine 200 = .ok (.aload_n 0, 1) := by decide +kernel
theorem dX12_readsLine_201 : decode cX12_readsLine 201 = .ok (.invokevirtual 430, 3) := by decide +kernel
theorem dX12_readsLine_204 : decode cX12_readsLine 204 = .ok (.ireturn, 1) := by decide +kernel
noncomputable def st_readsLine : Nat × List Int × gM → Option ((Nat × List Int × gM) ⊕ (Int × gM))
  | (0, [x1, x2, x3], M) => (if (0 : Int) < x3 then
      (Option.bind (F_has (M 729 289) x3) (fun r92 =>
        (if r92 = 0 then
          (if (0 : Int) < x3 then
            some (.inl (1, [x1, x2, x3], (gU M 729 289 (gor (M 729 289) (gshl 1 x3)))))
          else
            some (.inl (1, [x1, x2, x3], M)))
        else
          (Option.bind (F_wrongAt M 6 (M 711 30)) (fun p105 =>
            some (.inr (p105.1, p105.2)))))))
    else
      (if (0 : Int) < x3 then
        some (.inl (1, [x1, x2, x3], (gU M 729 289 (gor (M 729 289) (gshl 1 x3)))))
      else
        some (.inl (1, [x1, x2, x3], M))))
  | (1, [x1, x2, x3], M) => (Option.bind (F_takesSign (gU M 729 288 (gw32 ((M 729 288) + (1 : Int)))) 58) (fun p154 =>
      (if p154.1 = 0 then
        some (.inr (0, p154.2))
      else
        (if (0 : Int) < x2 then
          (Option.bind (F_readsList p154.2 x2) (fun p168 =>
            some (.inr (p168.1, p168.2))))
        else
          (if (0 : Int) < x3 then
            (Option.bind (F_readsOnce p154.2 x3) (fun p180 =>
              some (.inr (p180.1, p180.2))))
          else
            (if x1 = 632046 then
              (Option.bind (F_readsSign p154.2) (fun p194 =>
                some (.inr (p194.1, p194.2))))
            else
              (Option.bind (F_readsSkip p154.2) (fun p201 =>
                some (.inr (p201.1, p201.2))))))))))
  | _ => none
theorem sk_readsLine_79 (k : Nat × List Int × gM → Option (Int × gM)) (M : gM) (x1 x2 x3 : Int) : gWk k (st_readsLine (0, [x1, x2, x3], M)) = (if (0 : Int) < x3 then
    (Option.bind (F_has (M 729 289) x3) (fun r92 =>
      (if r92 = 0 then
        (if (0 : Int) < x3 then
          k (1, [x1, x2, x3], (gU M 729 289 (gor (M 729 289) (gshl 1 x3))))
        else
          k (1, [x1, x2, x3], M))
      else
        (Option.bind (F_wrongAt M 6 (M 711 30)) (fun p105 =>
          some (p105.1, p105.2))))))
  else
    (if (0 : Int) < x3 then
      k (1, [x1, x2, x3], (gU M 729 289 (gor (M 729 289) (gshl 1 x3))))
    else
      k (1, [x1, x2, x3], M))) := by
  simp only [st_readsLine, gWk_ite, gWk_bind, gWk_inl, gWk_inr, gWk_none]
theorem sk_readsLine_133 (k : Nat × List Int × gM → Option (Int × gM)) (M : gM) (x1 x2 x3 : Int) : gWk k (st_readsLine (1, [x1, x2, x3], M)) = (Option.bind (F_takesSign (gU M 729 288 (gw32 ((M 729 288) + (1 : Int)))) 58) (fun p154 =>
    (if p154.1 = 0 then
      some (0, p154.2)
    else
      (if (0 : Int) < x2 then
        (Option.bind (F_readsList p154.2 x2) (fun p168 =>
          some (p168.1, p168.2)))
      else
        (if (0 : Int) < x3 then
          (Option.bind (F_readsOnce p154.2 x3) (fun p180 =>
            some (p180.1, p180.2)))
        else
          (if x1 = 632046 then
            (Option.bind (F_readsSign p154.2) (fun p194 =>
              some (p194.1, p194.2)))
          else
            (Option.bind (F_readsSkip p154.2) (fun p201 =>
              some (p201.1, p201.2))))))))) := by
  simp only [st_readsLine, gWk_ite, gWk_bind, gWk_inl, gWk_inr, gWk_none]
noncomputable def F_readsLine_79 (M : gM) (x1 x2 x3 : Int) : Option (Int × gM) := gWh (st_readsLine) (0, [x1, x2, x3], M)
noncomputable def F_readsLine_133 (M : gM) (x1 x2 x3 : Int) : Option (Int × gM) := gWh (st_readsLine) (1, [x1, x2, x3], M)
theorem eq_readsLine_79 (M : gM) (x1 x2 x3 : Int) : F_readsLine_79 M x1 x2 x3 = (if (0 : Int) < x3 then
    (Option.bind (F_has (M 729 289) x3) (fun r92 =>
      (if r92 = 0 then
        (if (0 : Int) < x3 then
          F_readsLine_133 (gU M 729 289 (gor (M 729 289) (gshl 1 x3))) x1 x2 x3
        else
          F_readsLine_133 M x1 x2 x3)
      else
        (Option.bind (F_wrongAt M 6 (M 711 30)) (fun p105 =>
          some (p105.1, p105.2))))))
  else
    (if (0 : Int) < x3 then
      F_readsLine_133 (gU M 729 289 (gor (M 729 289) (gshl 1 x3))) x1 x2 x3
    else
      F_readsLine_133 M x1 x2 x3)) := (gWh_eq _).trans (sk_readsLine_79 _ M x1 x2 x3)
theorem eq_readsLine_133 (M : gM) (x1 x2 x3 : Int) : F_readsLine_133 M x1 x2 x3 = (Option.bind (F_takesSign (gU M 729 288 (gw32 ((M 729 288) + (1 : Int)))) 58) (fun p154 =>
    (if p154.1 = 0 then
      some (0, p154.2)
    else
      (if (0 : Int) < x2 then
        (Option.bind (F_readsList p154.2 x2) (fun p168 =>
          some (p168.1, p168.2)))
      else
        (if (0 : Int) < x3 then
          (Option.bind (F_readsOnce p154.2 x3) (fun p180 =>
            some (p180.1, p180.2)))
        else
          (if x1 = 632046 then
            (Option.bind (F_readsSign p154.2) (fun p194 =>
              some (p194.1, p194.2)))
          else
            (Option.bind (F_readsSkip p154.2) (fun p201 =>
              some (p201.1, p201.2))))))))) := (gWh_eq _).trans (sk_readsLine_133 _ M x1 x2 x3)
noncomputable def F_readsLine (M : gM) : Option (Int × gM) := (Option.bind (F_readsWord M) (fun m1 =>
    (Option.bind (F_listOf (m1 711 29)) (fun r10 =>
      (Option.bind (F_onceOf (m1 711 29)) (fun r15 =>
        (if r10 = 0 then
          (if r15 = 0 then
            (if (m1 711 29) = 632046 then
              (if (0 : Int) < r10 then
                (if 0 ≤ (gw32 ((274 : Int) + r10)) ∧ (gw32 ((274 : Int) + r10)) < 340 then
                  (if (m1 729 (gw32 ((274 : Int) + r10))) = 4 then
                    (Option.bind (F_wrongAt m1 4 (m1 711 30)) (fun p75 =>
                      some (p75.1, p75.2)))
                  else
                    F_readsLine_79 m1 (m1 711 29) r10 r15)
                else none)
              else
                F_readsLine_79 m1 (m1 711 29) r10 r15)
            else
              (if (m1 711 29) = 634160 then
                (if (0 : Int) < r10 then
                  (if 0 ≤ (gw32 ((274 : Int) + r10)) ∧ (gw32 ((274 : Int) + r10)) < 340 then
                    (if (m1 729 (gw32 ((274 : Int) + r10))) = 4 then
                      (Option.bind (F_wrongAt m1 4 (m1 711 30)) (fun p75 =>
                        some (p75.1, p75.2)))
                    else
                      F_readsLine_79 m1 (m1 711 29) r10 r15)
                  else none)
                else
                  F_readsLine_79 m1 (m1 711 29) r10 r15)
              else
                (Option.bind (F_wrongAt m1 1 (m1 711 30)) (fun p47 =>
                  some (p47.1, p47.2)))))
          else
            (if (0 : Int) < r10 then
              (if 0 ≤ (gw32 ((274 : Int) + r10)) ∧ (gw32 ((274 : Int) + r10)) < 340 then
                (if (m1 729 (gw32 ((274 : Int) + r10))) = 4 then
                  (Option.bind (F_wrongAt m1 4 (m1 711 30)) (fun p75 =>
                    some (p75.1, p75.2)))
                else
                  F_readsLine_79 m1 (m1 711 29) r10 r15)
              else none)
            else
              F_readsLine_79 m1 (m1 711 29) r10 r15))
        else
          (if (0 : Int) < r10 then
            (if 0 ≤ (gw32 ((274 : Int) + r10)) ∧ (gw32 ((274 : Int) + r10)) < 340 then
              (if (m1 729 (gw32 ((274 : Int) + r10))) = 4 then
                (Option.bind (F_wrongAt m1 4 (m1 711 30)) (fun p75 =>
                  some (p75.1, p75.2)))
              else
                F_readsLine_79 m1 (m1 711 29) r10 r15)
            else none)
          else
            F_readsLine_79 m1 (m1 711 29) r10 r15))))))))
theorem eq_readsLine (M : gM) : F_readsLine M = (Option.bind (F_readsWord M) (fun m1 =>
    (Option.bind (F_listOf (m1 711 29)) (fun r10 =>
      (Option.bind (F_onceOf (m1 711 29)) (fun r15 =>
        (if r10 = 0 then
          (if r15 = 0 then
            (if (m1 711 29) = 632046 then
              (if (0 : Int) < r10 then
                (if 0 ≤ (gw32 ((274 : Int) + r10)) ∧ (gw32 ((274 : Int) + r10)) < 340 then
                  (if (m1 729 (gw32 ((274 : Int) + r10))) = 4 then
                    (Option.bind (F_wrongAt m1 4 (m1 711 30)) (fun p75 =>
                      some (p75.1, p75.2)))
                  else
                    F_readsLine_79 m1 (m1 711 29) r10 r15)
                else none)
              else
                F_readsLine_79 m1 (m1 711 29) r10 r15)
            else
              (if (m1 711 29) = 634160 then
                (if (0 : Int) < r10 then
                  (if 0 ≤ (gw32 ((274 : Int) + r10)) ∧ (gw32 ((274 : Int) + r10)) < 340 then
                    (if (m1 729 (gw32 ((274 : Int) + r10))) = 4 then
                      (Option.bind (F_wrongAt m1 4 (m1 711 30)) (fun p75 =>
                        some (p75.1, p75.2)))
                    else
                      F_readsLine_79 m1 (m1 711 29) r10 r15)
                  else none)
                else
                  F_readsLine_79 m1 (m1 711 29) r10 r15)
              else
                (Option.bind (F_wrongAt m1 1 (m1 711 30)) (fun p47 =>
                  some (p47.1, p47.2)))))
          else
            (if (0 : Int) < r10 then
              (if 0 ≤ (gw32 ((274 : Int) + r10)) ∧ (gw32 ((274 : Int) + r10)) < 340 then
                (if (m1 729 (gw32 ((274 : Int) + r10))) = 4 then
                  (Option.bind (F_wrongAt m1 4 (m1 711 30)) (fun p75 =>
                    some (p75.1, p75.2)))
                else
                  F_readsLine_79 m1 (m1 711 29) r10 r15)
              else none)
            else
              F_readsLine_79 m1 (m1 711 29) r10 r15))
        else
          (if (0 : Int) < r10 then
            (if 0 ≤ (gw32 ((274 : Int) + r10)) ∧ (gw32 ((274 : Int) + r10)) < 340 then
              (if (m1 729 (gw32 ((274 : Int) + r10))) = 4 then
                (Option.bind (F_wrongAt m1 4 (m1 711 30)) (fun p75 =>
                  some (p75.1, p75.2)))
              else
                F_readsLine_79 m1 (m1 711 29) r10 r15)
            else none)
          else
            F_readsLine_79 m1 (m1 711 29) r10 r15)))))))) := rfl
theorem frp_readsLine : ∀ (s : Nat × List Int × gM) (b : Int × gM), gWh (st_readsLine) s = some b → (∀ (x1 x2 x3 : Int) (M : gM), s = (0, [x1, x2, x3], M) → gFr [729] [19, 21, 22, 23, 29, 30] M b.2) ∧ (∀ (x1 x2 x3 : Int) (M : gM), s = (1, [x1, x2, x3], M) → gFr [729] [19, 21, 22, 23, 29, 30] M b.2) := by
  refine gWh_ind (fun k hk s b h => ⟨?_, ?_⟩)
  · rintro x1 x2 x3 M rfl
    rw [sk_readsLine_79] at h
    rcases gI_or h with h | h
    · obtain ⟨r92, e92, h⟩ := gI_bd h
      rcases gI_or h with h | h
      · rcases gI_or h with h | h
        · exact gFr_t (gFr_a (gFr_r [729] [19, 21, 22, 23, 29, 30] _) (.head _) (by decide)) ((hk _ _ h).2 _ _ _ _ rfl) (fun _ z => z) (fun _ z => z)
        · exact gFr_t (gFr_r [729] [19, 21, 22, 23, 29, 30] _) ((hk _ _ h).2 _ _ _ _ rfl) (fun _ z => z) (fun _ z => z)
      · obtain ⟨p105, e105, h⟩ := gI_bd h
        rw [← Option.some.inj h]
        exact (gFr_t (gFr_r [729] [19, 21, 22, 23, 29, 30] _) (fr_wrongAt (b := p105) e105) (by first | decide | simp) (by decide))
    · rcases gI_or h with h | h
      · exact gFr_t (gFr_a (gFr_r [729] [19, 21, 22, 23, 29, 30] _) (.head _) (by decide)) ((hk _ _ h).2 _ _ _ _ rfl) (fun _ z => z) (fun _ z => z)
      · exact gFr_t (gFr_r [729] [19, 21, 22, 23, 29, 30] _) ((hk _ _ h).2 _ _ _ _ rfl) (fun _ z => z) (fun _ z => z)
  · rintro x1 x2 x3 M rfl
    rw [sk_readsLine_133] at h
    obtain ⟨p154, e154, h⟩ := gI_bd h
    rcases gI_or h with h | h
    · rw [← Option.some.inj h]
      exact (gFr_t (gFr_a (gFr_r [729] [19, 21, 22, 23, 29, 30] _) (.head _) (by decide)) (fr_takesSign (b := p154) e154) (by first | decide | simp) (by decide))
    · rcases gI_or h with h | h
      · obtain ⟨p168, e168, h⟩ := gI_bd h
        rw [← Option.some.inj h]
        exact (gFr_t (gFr_t (gFr_a (gFr_r [729] [19, 21, 22, 23, 29, 30] _) (.head _) (by decide)) (fr_takesSign (b := p154) e154) (by first | decide | simp) (by decide)) (fr_readsList (b := p168) e168) (by first | decide | simp) (by decide))
      · rcases gI_or h with h | h
        · obtain ⟨p180, e180, h⟩ := gI_bd h
          rw [← Option.some.inj h]
          exact (gFr_t (gFr_t (gFr_a (gFr_r [729] [19, 21, 22, 23, 29, 30] _) (.head _) (by decide)) (fr_takesSign (b := p154) e154) (by first | decide | simp) (by decide)) (fr_readsOnce (b := p180) e180) (by first | decide | simp) (by decide))
        · rcases gI_or h with h | h
          · obtain ⟨p194, e194, h⟩ := gI_bd h
            rw [← Option.some.inj h]
            exact (gFr_t (gFr_t (gFr_a (gFr_r [729] [19, 21, 22, 23, 29, 30] _) (.head _) (by decide)) (fr_takesSign (b := p154) e154) (by first | decide | simp) (by decide)) (fr_readsSign (b := p194) e194) (by first | decide | simp) (by decide))
          · obtain ⟨p201, e201, h⟩ := gI_bd h
            rw [← Option.some.inj h]
            exact (gFr_t (gFr_t (gFr_a (gFr_r [729] [19, 21, 22, 23, 29, 30] _) (.head _) (by decide)) (fr_takesSign (b := p154) e154) (by first | decide | simp) (by decide)) (fr_readsSkip (b := p201) e201) (by first | decide | simp) (by decide))
theorem fr_readsLine_79 {M : gM} {x1 x2 x3 : Int} {b : Int × gM} (h : F_readsLine_79 M x1 x2 x3 = some b) : gFr [729] [19, 21, 22, 23, 29, 30] M b.2 :=
  (frp_readsLine _ _ h).1 _ _ _ _ rfl
theorem fr_readsLine_133 {M : gM} {x1 x2 x3 : Int} {b : Int × gM} (h : F_readsLine_133 M x1 x2 x3 = some b) : gFr [729] [19, 21, 22, 23, 29, 30] M b.2 :=
  (frp_readsLine _ _ h).2 _ _ _ _ rfl
theorem fr_readsLine {M : gM} {b : Int × gM} (h : F_readsLine M = some b) : gFr [729] [19, 21, 22, 23, 29, 30] M b.2 := by
  rw [eq_readsLine] at h
  obtain ⟨m1, e1, h⟩ := gI_bd h
  obtain ⟨r10, e10, h⟩ := gI_bd h
  obtain ⟨r15, e15, h⟩ := gI_bd h
  rcases gI_or h with h | h
  · rcases gI_or h with h | h
    · rcases gI_or h with h | h
      · rcases gI_or h with h | h
        · obtain ⟨g15, h⟩ := gI_gd h
          rcases gI_or h with h | h
          · obtain ⟨p75, e75, h⟩ := gI_bd h
            rw [← Option.some.inj h]
            exact (gFr_t (gFr_t (gFr_r [729] [19, 21, 22, 23, 29, 30] _) (fr_readsWord (b := m1) e1) (by first | decide | simp) (by decide)) (fr_wrongAt (b := p75) e75) (by first | decide | simp) (by decide))
          · exact gFr_t (gFr_t (gFr_r [729] [19, 21, 22, 23, 29, 30] _) (fr_readsWord (b := m1) e1) (by first | decide | simp) (by decide)) (fr_readsLine_79 h) (fun _ z => z) (fun _ z => z)
        · exact gFr_t (gFr_t (gFr_r [729] [19, 21, 22, 23, 29, 30] _) (fr_readsWord (b := m1) e1) (by first | decide | simp) (by decide)) (fr_readsLine_79 h) (fun _ z => z) (fun _ z => z)
      · rcases gI_or h with h | h
        · rcases gI_or h with h | h
          · obtain ⟨g17, h⟩ := gI_gd h
            rcases gI_or h with h | h
            · obtain ⟨p75, e75, h⟩ := gI_bd h
              rw [← Option.some.inj h]
              exact (gFr_t (gFr_t (gFr_r [729] [19, 21, 22, 23, 29, 30] _) (fr_readsWord (b := m1) e1) (by first | decide | simp) (by decide)) (fr_wrongAt (b := p75) e75) (by first | decide | simp) (by decide))
            · exact gFr_t (gFr_t (gFr_r [729] [19, 21, 22, 23, 29, 30] _) (fr_readsWord (b := m1) e1) (by first | decide | simp) (by decide)) (fr_readsLine_79 h) (fun _ z => z) (fun _ z => z)
          · exact gFr_t (gFr_t (gFr_r [729] [19, 21, 22, 23, 29, 30] _) (fr_readsWord (b := m1) e1) (by first | decide | simp) (by decide)) (fr_readsLine_79 h) (fun _ z => z) (fun _ z => z)
        · obtain ⟨p47, e47, h⟩ := gI_bd h
          rw [← Option.some.inj h]
          exact (gFr_t (gFr_t (gFr_r [729] [19, 21, 22, 23, 29, 30] _) (fr_readsWord (b := m1) e1) (by first | decide | simp) (by decide)) (fr_wrongAt (b := p47) e47) (by first | decide | simp) (by decide))
    · rcases gI_or h with h | h
      · obtain ⟨g13, h⟩ := gI_gd h
        rcases gI_or h with h | h
        · obtain ⟨p75, e75, h⟩ := gI_bd h
          rw [← Option.some.inj h]
          exact (gFr_t (gFr_t (gFr_r [729] [19, 21, 22, 23, 29, 30] _) (fr_readsWord (b := m1) e1) (by first | decide | simp) (by decide)) (fr_wrongAt (b := p75) e75) (by first | decide | simp) (by decide))
        · exact gFr_t (gFr_t (gFr_r [729] [19, 21, 22, 23, 29, 30] _) (fr_readsWord (b := m1) e1) (by first | decide | simp) (by decide)) (fr_readsLine_79 h) (fun _ z => z) (fun _ z => z)
      · exact gFr_t (gFr_t (gFr_r [729] [19, 21, 22, 23, 29, 30] _) (fr_readsWord (b := m1) e1) (by first | decide | simp) (by decide)) (fr_readsLine_79 h) (fun _ z => z) (fun _ z => z)
  · rcases gI_or h with h | h
    · obtain ⟨g11, h⟩ := gI_gd h
      rcases gI_or h with h | h
      · obtain ⟨p75, e75, h⟩ := gI_bd h
        rw [← Option.some.inj h]
        exact (gFr_t (gFr_t (gFr_r [729] [19, 21, 22, 23, 29, 30] _) (fr_readsWord (b := m1) e1) (by first | decide | simp) (by decide)) (fr_wrongAt (b := p75) e75) (by first | decide | simp) (by decide))
      · exact gFr_t (gFr_t (gFr_r [729] [19, 21, 22, 23, 29, 30] _) (fr_readsWord (b := m1) e1) (by first | decide | simp) (by decide)) (fr_readsLine_79 h) (fun _ z => z) (fun _ z => z)
    · exact gFr_t (gFr_t (gFr_r [729] [19, 21, 22, 23, 29, 30] _) (fr_readsWord (b := m1) e1) (by first | decide | simp) (by decide)) (fr_readsLine_79 h) (fun _ z => z) (fun _ z => z)
theorem bop_readsLine : ∀ (s : Nat × List Int × gM) (b : Int × gM), gWh (st_readsLine) s = some b → (∀ (x1 x2 x3 : Int) (M : gM), s = (0, [x1, x2, x3], M) → b.1 = 0 ∨ b.1 = 1) ∧ (∀ (x1 x2 x3 : Int) (M : gM), s = (1, [x1, x2, x3], M) → b.1 = 0 ∨ b.1 = 1) := by
  refine gWh_ind (fun k hk s b h => ⟨?_, ?_⟩)
  · rintro x1 x2 x3 M rfl
    rw [sk_readsLine_79] at h
    rcases gI_or h with h | h
    · obtain ⟨r92, e92, h⟩ := gI_bd h
      rcases gI_or h with h | h
      · rcases gI_or h with h | h
        · exact (hk _ _ h).2 _ _ _ _ rfl
        · exact (hk _ _ h).2 _ _ _ _ rfl
      · obtain ⟨p105, e105, h⟩ := gI_bd h
        rw [← Option.some.inj h]
        exact (bo_wrongAt (b := p105) e105)
    · rcases gI_or h with h | h
      · exact (hk _ _ h).2 _ _ _ _ rfl
      · exact (hk _ _ h).2 _ _ _ _ rfl
  · rintro x1 x2 x3 M rfl
    rw [sk_readsLine_133] at h
    obtain ⟨p154, e154, h⟩ := gI_bd h
    rcases gI_or h with h | h
    · rw [← Option.some.inj h]
      exact (Or.inl rfl)
    · rcases gI_or h with h | h
      · obtain ⟨p168, e168, h⟩ := gI_bd h
        rw [← Option.some.inj h]
        exact (bo_readsList (b := p168) e168)
      · rcases gI_or h with h | h
        · obtain ⟨p180, e180, h⟩ := gI_bd h
          rw [← Option.some.inj h]
          exact (bo_readsOnce (b := p180) e180)
        · rcases gI_or h with h | h
          · obtain ⟨p194, e194, h⟩ := gI_bd h
            rw [← Option.some.inj h]
            exact (bo_readsSign (b := p194) e194)
          · obtain ⟨p201, e201, h⟩ := gI_bd h
            rw [← Option.some.inj h]
            exact (bo_readsSkip (b := p201) e201)
theorem bo_readsLine_79 {M : gM} {x1 x2 x3 : Int} {b : Int × gM} (h : F_readsLine_79 M x1 x2 x3 = some b) : b.1 = 0 ∨ b.1 = 1 :=
  (bop_readsLine _ _ h).1 _ _ _ _ rfl
theorem bo_readsLine_133 {M : gM} {x1 x2 x3 : Int} {b : Int × gM} (h : F_readsLine_133 M x1 x2 x3 = some b) : b.1 = 0 ∨ b.1 = 1 :=
  (bop_readsLine _ _ h).2 _ _ _ _ rfl
theorem bo_readsLine {M : gM} {b : Int × gM} (h : F_readsLine M = some b) : b.1 = 0 ∨ b.1 = 1 := by
  rw [eq_readsLine] at h
  obtain ⟨m1, e1, h⟩ := gI_bd h
  obtain ⟨r10, e10, h⟩ := gI_bd h
  obtain ⟨r15, e15, h⟩ := gI_bd h
  rcases gI_or h with h | h
  · rcases gI_or h with h | h
    · rcases gI_or h with h | h
      · rcases gI_or h with h | h
        · obtain ⟨g15, h⟩ := gI_gd h
          rcases gI_or h with h | h
          · obtain ⟨p75, e75, h⟩ := gI_bd h
            rw [← Option.some.inj h]
            exact (bo_wrongAt (b := p75) e75)
          · exact bo_readsLine_79 h
        · exact bo_readsLine_79 h
      · rcases gI_or h with h | h
        · rcases gI_or h with h | h
          · obtain ⟨g17, h⟩ := gI_gd h
            rcases gI_or h with h | h
            · obtain ⟨p75, e75, h⟩ := gI_bd h
              rw [← Option.some.inj h]
              exact (bo_wrongAt (b := p75) e75)
            · exact bo_readsLine_79 h
          · exact bo_readsLine_79 h
        · obtain ⟨p47, e47, h⟩ := gI_bd h
          rw [← Option.some.inj h]
          exact (bo_wrongAt (b := p47) e47)
    · rcases gI_or h with h | h
      · obtain ⟨g13, h⟩ := gI_gd h
        rcases gI_or h with h | h
        · obtain ⟨p75, e75, h⟩ := gI_bd h
          rw [← Option.some.inj h]
          exact (bo_wrongAt (b := p75) e75)
        · exact bo_readsLine_79 h
      · exact bo_readsLine_79 h
  · rcases gI_or h with h | h
    · obtain ⟨g11, h⟩ := gI_gd h
      rcases gI_or h with h | h
      · obtain ⟨p75, e75, h⟩ := gI_bd h
        rw [← Option.some.inj h]
        exact (bo_wrongAt (b := p75) e75)
      · exact bo_readsLine_79 h
    · exact bo_readsLine_79 h
theorem okp_readsLine {sh : gS} : ∀ (s : Nat × List Int × gM) (b : Int × gM), gWh (st_readsLine) s = some b → (∀ (x1 x2 x3 : Int) (M : gM), s = (0, [x1, x2, x3], M) → gOK sh M → gA (gr 7 149) yX12_readsLine cX12_readsLine 4 (some (.boolean)) (gPq sh (some (0, b.1)) b.2) (0, 0) 79 [(4, 711), (0, x1), (0, x2), (0, x3)] [] sh M) ∧ (∀ (x1 x2 x3 : Int) (M : gM), s = (1, [x1, x2, x3], M) → gOK sh M → gA (gr 7 149) yX12_readsLine cX12_readsLine 4 (some (.boolean)) (gPq sh (some (0, b.1)) b.2) (0, 0) 133 [(4, 711), (0, x1), (0, x2), (0, x3)] [] sh M) := by
  refine gWh_ind (fun k hk s b h => ⟨?_, ?_⟩)
  · rintro x1 x2 x3 M rfl hOK
    rw [sk_readsLine_79] at h
    refine g_iload_n (q0 := 80) (j := 3) rfl dX12_readsLine_79 rfl ?_
    refine g_if_le (q0 := 83) (tgt := 109) rfl dX12_readsLine_80 (by decide) (fun h80 => ?_) (fun h80 => ?_)
    · replace h := gI_neg (Int.not_lt.mpr h80) h
      refine g_iload_n (q0 := 110) (j := 3) rfl dX12_readsLine_109 rfl ?_
      refine g_if_le (q0 := 113) (tgt := 133) rfl dX12_readsLine_110 (by decide) (fun h110 => ?_) (fun h110 => ?_)
      · replace h := gI_neg (Int.not_lt.mpr h110) h
        exact (hk _ _ h).2 _ _ _ _ rfl hOK
      · replace h := gI_pos h110 h
        refine g_aload_n (q0 := 114) (j := 0) rfl dX12_readsLine_113 rfl ?_
        refine g_getp (q0 := 117) (b := 729) rfl ff_X12_63 dX12_readsLine_114 rfl hOK (by decide) (sh_711 hOK) rfl (by decide) ?_
        refine g_sipush (q0 := 120) rfl dX12_readsLine_117 (k := ?_)
        refine g_aload_n (q0 := 121) (j := 0) rfl dX12_readsLine_120 rfl ?_
        refine g_getp (q0 := 124) (b := 729) rfl ff_X12_63 dX12_readsLine_121 rfl hOK (by decide) (sh_711 hOK) rfl (by decide) ?_
        refine g_sipush (q0 := 127) rfl dX12_readsLine_124 (k := ?_)
        refine g_iald (q0 := 128) rfl dX12_readsLine_127 (sh_729 hOK) (by decide) (by decide) ?_
        refine g_iconst (q0 := 129) rfl dX12_readsLine_128 (k := ?_)
        refine g_iload_n (q0 := 130) (j := 3) rfl dX12_readsLine_129 rfl ?_
        refine g_ishl (q0 := 131) rfl dX12_readsLine_130 ?_
        refine g_ior (q0 := 132) rfl dX12_readsLine_131 ?_
        refine g_iast (q0 := 133) rfl dX12_readsLine_132 (sh_729 hOK) (by decide) (by decide) ?_
        have hOK1 : gOK sh (gU M 729 289 (gor (M 729 289) (gshl 1 x3))) := gOK_i hOK (sh_729 hOK)
        exact (hk _ _ h).2 _ _ _ _ rfl hOK1
    · replace h := gI_pos h80 h
      refine g_aload_n (q0 := 84) (j := 0) rfl dX12_readsLine_83 rfl ?_
      refine g_getp (q0 := 87) (b := 729) rfl ff_X12_63 dX12_readsLine_84 rfl hOK (by decide) (sh_711 hOK) rfl (by decide) ?_
      refine g_sipush (q0 := 90) rfl dX12_readsLine_87 (k := ?_)
      refine g_iald (q0 := 91) rfl dX12_readsLine_90 (sh_729 hOK) (by decide) (by decide) ?_
      refine g_iload_n (q0 := 92) (j := 3) rfl dX12_readsLine_91 rfl ?_
      obtain ⟨r92, e92, h⟩ := gI_bd h
      refine g_callSq1 (as := [_, _]) (rest := []) mt_X12_has ms_X12_has ml_X12_418 dX12_readsLine_92 (q0 := 95) rfl rfl (ok_has hOK e92) rfl ⟨by decide, by decide⟩ (Nat.le_of_ble_eq_true rfl) ⟨Nat.zero_le _, Nat.zero_le _⟩ ?_
      refine g_if_eq (q0 := 98) (tgt := 109) rfl dX12_readsLine_95 (by decide) (fun h95 => ?_) (fun h95 => ?_)
      · replace h := gI_pos h95 h
        refine g_iload_n (q0 := 110) (j := 3) rfl dX12_readsLine_109 rfl ?_
        refine g_if_le (q0 := 113) (tgt := 133) rfl dX12_readsLine_110 (by decide) (fun h110 => ?_) (fun h110 => ?_)
        · replace h := gI_neg (Int.not_lt.mpr h110) h
          exact (hk _ _ h).2 _ _ _ _ rfl hOK
        · replace h := gI_pos h110 h
          refine g_aload_n (q0 := 114) (j := 0) rfl dX12_readsLine_113 rfl ?_
          refine g_getp (q0 := 117) (b := 729) rfl ff_X12_63 dX12_readsLine_114 rfl hOK (by decide) (sh_711 hOK) rfl (by decide) ?_
          refine g_sipush (q0 := 120) rfl dX12_readsLine_117 (k := ?_)
          refine g_aload_n (q0 := 121) (j := 0) rfl dX12_readsLine_120 rfl ?_
          refine g_getp (q0 := 124) (b := 729) rfl ff_X12_63 dX12_readsLine_121 rfl hOK (by decide) (sh_711 hOK) rfl (by decide) ?_
          refine g_sipush (q0 := 127) rfl dX12_readsLine_124 (k := ?_)
          refine g_iald (q0 := 128) rfl dX12_readsLine_127 (sh_729 hOK) (by decide) (by decide) ?_
          refine g_iconst (q0 := 129) rfl dX12_readsLine_128 (k := ?_)
          refine g_iload_n (q0 := 130) (j := 3) rfl dX12_readsLine_129 rfl ?_
          refine g_ishl (q0 := 131) rfl dX12_readsLine_130 ?_
          refine g_ior (q0 := 132) rfl dX12_readsLine_131 ?_
          refine g_iast (q0 := 133) rfl dX12_readsLine_132 (sh_729 hOK) (by decide) (by decide) ?_
          have hOK2 : gOK sh (gU M 729 289 (gor (M 729 289) (gshl 1 x3))) := gOK_i hOK (sh_729 hOK)
          exact (hk _ _ h).2 _ _ _ _ rfl hOK2
      · replace h := gI_neg h95 h
        refine g_aload_n (q0 := 99) (j := 0) rfl dX12_readsLine_98 rfl ?_
        refine g_bipush (q0 := 101) rfl dX12_readsLine_99 (k := ?_)
        refine g_aload_n (q0 := 102) (j := 0) rfl dX12_readsLine_101 rfl ?_
        refine g_getf (q0 := 105) (t := 0) (fi := 30) rfl rfl ff_X12_366 dX12_readsLine_102 rfl (sh_711 hOK) ?_
        obtain ⟨p105, e105, h⟩ := gI_bd h
        refine g_callVq1 (as := [_, _]) (rest := []) mt_X12_wrongAt mi_X12_wrongAt se_X12_wrongAt ml_X12_269 dX12_readsLine_105 (q0 := 108) rfl rfl (sh_711 hOK) rfl rfl (ok_wrongAt hOK e105) rfl ⟨by decide, by decide⟩ (Nat.le_of_ble_eq_true rfl) ⟨Nat.zero_le _, Nat.zero_le _⟩ ?_
        have hOK3 : gOK sh p105.2 := gOK_fr hOK (fr_wrongAt (b := p105) e105) (by first | decide | (intro a ha; simp only [List.mem_cons, List.not_mem_nil, or_false] at ha; omega)) (by decide)
        rw [← Option.some.inj h]
        refine g_zreturn dX12_readsLine_108 rfl (gnz (bo_wrongAt (b := p105) e105)) ⟨Nat.zero_le _, Nat.zero_le _⟩ ?_
        exact ⟨rfl, rfl, rfl⟩
  · rintro x1 x2 x3 M rfl hOK
    rw [sk_readsLine_133] at h
    refine g_aload_n (q0 := 134) (j := 0) rfl dX12_readsLine_133 rfl ?_
    refine g_getp (q0 := 137) (b := 729) rfl ff_X12_63 dX12_readsLine_134 rfl hOK (by decide) (sh_711 hOK) rfl (by decide) ?_
    refine g_sipush (q0 := 140) rfl dX12_readsLine_137 (k := ?_)
    refine g_aload_n (q0 := 141) (j := 0) rfl dX12_readsLine_140 rfl ?_
    refine g_getp (q0 := 144) (b := 729) rfl ff_X12_63 dX12_readsLine_141 rfl hOK (by decide) (sh_711 hOK) rfl (by decide) ?_
    refine g_sipush (q0 := 147) rfl dX12_readsLine_144 (k := ?_)
    refine g_iald (q0 := 148) rfl dX12_readsLine_147 (sh_729 hOK) (by decide) (by decide) ?_
    refine g_iconst (q0 := 149) rfl dX12_readsLine_148 (k := ?_)
    refine g_iaddw (q0 := 150) rfl dX12_readsLine_149 ?_
    refine g_iast (q0 := 151) rfl dX12_readsLine_150 (sh_729 hOK) (by decide) (by decide) ?_
    have hOK4 : gOK sh (gU M 729 288 (gw32 ((M 729 288) + (1 : Int)))) := gOK_i hOK (sh_729 hOK)
    refine g_aload_n (q0 := 152) (j := 0) rfl dX12_readsLine_151 rfl ?_
    refine g_bipush (q0 := 154) rfl dX12_readsLine_152 (k := ?_)
    obtain ⟨p154, e154, h⟩ := gI_bd h
    refine g_callVq1 (as := [_]) (rest := []) mt_X12_takesSign mi_X12_takesSign se_X12_takesSign ml_X12_297 dX12_readsLine_154 (q0 := 157) rfl rfl (sh_711 hOK4) rfl rfl (ok_takesSign hOK4 e154) rfl ⟨by decide, by decide⟩ (Nat.le_of_ble_eq_true rfl) ⟨Nat.zero_le _, Nat.zero_le _⟩ ?_
    have hOK5 : gOK sh p154.2 := gOK_fr hOK4 (fr_takesSign (b := p154) e154) (by first | decide | (intro a ha; simp only [List.mem_cons, List.not_mem_nil, or_false] at ha; omega)) (by decide)
    refine g_if_ne (q0 := 160) (tgt := 162) rfl dX12_readsLine_157 (by decide) (fun h157 => ?_) (fun h157 => ?_)
    · replace h := gI_neg h157 h
      refine g_iload_n (q0 := 163) (j := 2) rfl dX12_readsLine_162 rfl ?_
      refine g_if_le (q0 := 166) (tgt := 174) rfl dX12_readsLine_163 (by decide) (fun h163 => ?_) (fun h163 => ?_)
      · replace h := gI_neg (Int.not_lt.mpr h163) h
        refine g_iload_n (q0 := 175) (j := 3) rfl dX12_readsLine_174 rfl ?_
        refine g_if_le (q0 := 178) (tgt := 186) rfl dX12_readsLine_175 (by decide) (fun h175 => ?_) (fun h175 => ?_)
        · replace h := gI_neg (Int.not_lt.mpr h175) h
          refine g_iload_n (q0 := 187) (j := 1) rfl dX12_readsLine_186 rfl ?_
          refine g_ldcw (q0 := 190) (n := 632046) rfl co_X12_416 dX12_readsLine_187 (k := ?_)
          refine g_icmp_ne (q0 := 193) (tgt := 200) rfl dX12_readsLine_190 (by decide) (fun h190 => ?_) (fun h190 => ?_)
          · replace h := gI_neg h190 h
            refine g_aload_n (q0 := 201) (j := 0) rfl dX12_readsLine_200 rfl ?_
            obtain ⟨p201, e201, h⟩ := gI_bd h
            refine g_callVq1 (as := []) (rest := []) mt_X12_readsSkip mi_X12_readsSkip se_X12_readsSkip ml_X12_430 dX12_readsLine_201 (q0 := 204) rfl rfl (sh_711 hOK5) rfl rfl (ok_readsSkip hOK5 e201) rfl ⟨by decide, by decide⟩ (Nat.le_of_ble_eq_true rfl) ⟨Nat.zero_le _, Nat.zero_le _⟩ ?_
            have hOK6 : gOK sh p201.2 := gOK_fr hOK5 (fr_readsSkip (b := p201) e201) (by first | decide | (intro a ha; simp only [List.mem_cons, List.not_mem_nil, or_false] at ha; omega)) (by decide)
            rw [← Option.some.inj h]
            refine g_zreturn dX12_readsLine_204 rfl (gnz (bo_readsSkip (b := p201) e201)) ⟨Nat.zero_le _, Nat.zero_le _⟩ ?_
            exact ⟨rfl, rfl, rfl⟩
          · replace h := gI_pos h190 h
            refine g_aload_n (q0 := 194) (j := 0) rfl dX12_readsLine_193 rfl ?_
            obtain ⟨p194, e194, h⟩ := gI_bd h
            refine g_callVq1 (as := []) (rest := []) mt_X12_readsSign mi_X12_readsSign se_X12_readsSign ml_X12_427 dX12_readsLine_194 (q0 := 197) rfl rfl (sh_711 hOK5) rfl rfl (ok_readsSign hOK5 e194) rfl ⟨by decide, by decide⟩ (Nat.le_of_ble_eq_true rfl) ⟨Nat.zero_le _, Nat.zero_le _⟩ ?_
            have hOK7 : gOK sh p194.2 := gOK_fr hOK5 (fr_readsSign (b := p194) e194) (by first | decide | (intro a ha; simp only [List.mem_cons, List.not_mem_nil, or_false] at ha; omega)) (by decide)
            refine g_goto (tgt := 204) dX12_readsLine_197 (by decide) ?_
            rw [← Option.some.inj h]
            refine g_zreturn dX12_readsLine_204 rfl (gnz (bo_readsSign (b := p194) e194)) ⟨Nat.zero_le _, Nat.zero_le _⟩ ?_
            exact ⟨rfl, rfl, rfl⟩
        · replace h := gI_pos h175 h
          refine g_aload_n (q0 := 179) (j := 0) rfl dX12_readsLine_178 rfl ?_
          refine g_iload_n (q0 := 180) (j := 3) rfl dX12_readsLine_179 rfl ?_
          obtain ⟨p180, e180, h⟩ := gI_bd h
          refine g_callVq1 (as := [_]) (rest := []) mt_X12_readsOnce mi_X12_readsOnce se_X12_readsOnce ml_X12_424 dX12_readsLine_180 (q0 := 183) rfl rfl (sh_711 hOK5) rfl rfl (ok_readsOnce hOK5 e180) rfl ⟨by decide, by decide⟩ (Nat.le_of_ble_eq_true rfl) ⟨Nat.zero_le _, Nat.zero_le _⟩ ?_
          have hOK8 : gOK sh p180.2 := gOK_fr hOK5 (fr_readsOnce (b := p180) e180) (by first | decide | (intro a ha; simp only [List.mem_cons, List.not_mem_nil, or_false] at ha; omega)) (by decide)
          refine g_goto (tgt := 204) dX12_readsLine_183 (by decide) ?_
          rw [← Option.some.inj h]
          refine g_zreturn dX12_readsLine_204 rfl (gnz (bo_readsOnce (b := p180) e180)) ⟨Nat.zero_le _, Nat.zero_le _⟩ ?_
          exact ⟨rfl, rfl, rfl⟩
      · replace h := gI_pos h163 h
        refine g_aload_n (q0 := 167) (j := 0) rfl dX12_readsLine_166 rfl ?_
        refine g_iload_n (q0 := 168) (j := 2) rfl dX12_readsLine_167 rfl ?_
        obtain ⟨p168, e168, h⟩ := gI_bd h
        refine g_callVq1 (as := [_]) (rest := []) mt_X12_readsList mi_X12_readsList se_X12_readsList ml_X12_421 dX12_readsLine_168 (q0 := 171) rfl rfl (sh_711 hOK5) rfl rfl (ok_readsList hOK5 e168) rfl ⟨by decide, by decide⟩ (Nat.le_of_ble_eq_true rfl) ⟨Nat.zero_le _, Nat.zero_le _⟩ ?_
        have hOK9 : gOK sh p168.2 := gOK_fr hOK5 (fr_readsList (b := p168) e168) (by first | decide | (intro a ha; simp only [List.mem_cons, List.not_mem_nil, or_false] at ha; omega)) (by decide)
        refine g_goto (tgt := 204) dX12_readsLine_171 (by decide) ?_
        rw [← Option.some.inj h]
        refine g_zreturn dX12_readsLine_204 rfl (gnz (bo_readsList (b := p168) e168)) ⟨Nat.zero_le _, Nat.zero_le _⟩ ?_
        exact ⟨rfl, rfl, rfl⟩
    · replace h := gI_pos h157 h
      refine g_iconst (q0 := 161) rfl dX12_readsLine_160 (k := ?_)
      rw [← Option.some.inj h]
      refine g_zreturn dX12_readsLine_161 rfl (gnz (Or.inl rfl)) ⟨Nat.zero_le _, Nat.zero_le _⟩ ?_
      exact ⟨rfl, rfl, rfl⟩
theorem ok_readsLine_79 {sh : gS} {M : gM} {x1 x2 x3 : Int} {b : Int × gM} (hOK : gOK sh M) (h : F_readsLine_79 M x1 x2 x3 = some b) : gA (gr 7 149) yX12_readsLine cX12_readsLine 4 (some (.boolean)) (gPq sh (some (0, b.1)) b.2) (0, 0) 79 [(4, 711), (0, x1), (0, x2), (0, x3)] [] sh M :=
  (okp_readsLine _ _ h).1 _ _ _ _ rfl hOK
theorem ok_readsLine_133 {sh : gS} {M : gM} {x1 x2 x3 : Int} {b : Int × gM} (hOK : gOK sh M) (h : F_readsLine_133 M x1 x2 x3 = some b) : gA (gr 7 149) yX12_readsLine cX12_readsLine 4 (some (.boolean)) (gPq sh (some (0, b.1)) b.2) (0, 0) 133 [(4, 711), (0, x1), (0, x2), (0, x3)] [] sh M :=
  (okp_readsLine _ _ h).2 _ _ _ _ rfl hOK
theorem ok_readsLine {sh : gS} {M : gM} {b : Int × gM} (hOK : gOK sh M) (h : F_readsLine M = some b) : gC (gr 7 149) yX12_readsLine cX12_readsLine 4 (some (.boolean)) [(4, 711)] sh M (gPq sh (some (0, b.1)) b.2) := by
  rw [eq_readsLine] at h
  refine gC_ofA (lv := [_, _, _, _]) (by decide +kernel) (Nat.le_of_ble_eq_true rfl) rfl (fun hMw hav => ?_)
  refine g_aload_n (q0 := 1) (j := 0) rfl dX12_readsLine_0 rfl ?_
  obtain ⟨m1, e1, h⟩ := gI_bd h
  refine g_callVq0 (as := []) (rest := []) mt_X12_readsWord mi_X12_readsWord se_X12_readsWord ml_X12_407 dX12_readsLine_1 (q0 := 4) rfl rfl (sh_711 hOK) rfl rfl (ok_readsWord hOK e1) rfl ⟨by decide, by decide⟩ (Nat.le_of_ble_eq_true rfl) ⟨Nat.zero_le _, Nat.zero_le _⟩ ?_
  have hOK10 : gOK sh m1 := gOK_fr hOK (fr_readsWord (b := m1) e1) (by first | decide | (intro a ha; simp only [List.mem_cons, List.not_mem_nil, or_false] at ha; omega)) (by decide)
  refine g_aload_n (q0 := 5) (j := 0) rfl dX12_readsLine_4 rfl ?_
  refine g_getf (q0 := 8) (t := 0) (fi := 29) rfl rfl ff_X12_369 dX12_readsLine_5 rfl (sh_711 hOK10) ?_
  refine g_istore_n (q0 := 9) (j := 1) (lv2 := [_, _, _, _]) rfl dX12_readsLine_8 (by decide) rfl rfl ?_
  refine g_iload_n (q0 := 10) (j := 1) rfl dX12_readsLine_9 rfl ?_
  obtain ⟨r10, e10, h⟩ := gI_bd h
  refine g_callSq1 (as := [_]) (rest := []) mt_X12_listOf ms_X12_listOf ml_X12_410 dX12_readsLine_10 (q0 := 13) rfl rfl (ok_listOf hOK10 e10) rfl ⟨by decide, by decide⟩ (Nat.le_of_ble_eq_true rfl) ⟨Nat.zero_le _, Nat.zero_le _⟩ ?_
  refine g_istore_n (q0 := 14) (j := 2) (lv2 := [_, _, _, _]) rfl dX12_readsLine_13 (by decide) rfl rfl ?_
  refine g_iload_n (q0 := 15) (j := 1) rfl dX12_readsLine_14 rfl ?_
  obtain ⟨r15, e15, h⟩ := gI_bd h
  refine g_callSq1 (as := [_]) (rest := []) mt_X12_onceOf ms_X12_onceOf ml_X12_413 dX12_readsLine_15 (q0 := 18) rfl rfl (ok_onceOf hOK10 e15) rfl ⟨by decide, by decide⟩ (Nat.le_of_ble_eq_true rfl) ⟨Nat.zero_le _, Nat.zero_le _⟩ ?_
  refine g_istore_n (q0 := 19) (j := 3) (lv2 := [_, _, _, _]) rfl dX12_readsLine_18 (by decide) rfl rfl ?_
  refine g_iload_n (q0 := 20) (j := 2) rfl dX12_readsLine_19 rfl ?_
  refine g_if_ne (q0 := 23) (tgt := 51) rfl dX12_readsLine_20 (by decide) (fun h20 => ?_) (fun h20 => ?_)
  · replace h := gI_neg h20 h
    refine g_iload_n (q0 := 52) (j := 2) rfl dX12_readsLine_51 rfl ?_
    refine g_if_le (q0 := 55) (tgt := 79) rfl dX12_readsLine_52 (by decide) (fun h52 => ?_) (fun h52 => ?_)
    · replace h := gI_neg (Int.not_lt.mpr h52) h
      exact ok_readsLine_79 hOK10 h
    · replace h := gI_pos h52 h
      refine g_aload_n (q0 := 56) (j := 0) rfl dX12_readsLine_55 rfl ?_
      refine g_getp (q0 := 59) (b := 729) rfl ff_X12_63 dX12_readsLine_56 rfl hOK10 (by decide) (sh_711 hOK10) rfl (by decide) ?_
      refine g_sipush (q0 := 62) rfl dX12_readsLine_59 (k := ?_)
      refine g_iload_n (q0 := 63) (j := 2) rfl dX12_readsLine_62 rfl ?_
      refine g_iaddw (q0 := 64) rfl dX12_readsLine_63 ?_
      obtain ⟨g11, h⟩ := gI_gd h
      refine g_iald (q0 := 65) rfl dX12_readsLine_64 (sh_729 hOK10) g11.1 g11.2 ?_
      refine g_iconst (q0 := 66) rfl dX12_readsLine_65 (k := ?_)
      refine g_icmp_ne (q0 := 69) (tgt := 79) rfl dX12_readsLine_66 (by decide) (fun h66 => ?_) (fun h66 => ?_)
      · replace h := gI_neg h66 h
        exact ok_readsLine_79 hOK10 h
      · replace h := gI_pos h66 h
        refine g_aload_n (q0 := 70) (j := 0) rfl dX12_readsLine_69 rfl ?_
        refine g_iconst (q0 := 71) rfl dX12_readsLine_70 (k := ?_)
        refine g_aload_n (q0 := 72) (j := 0) rfl dX12_readsLine_71 rfl ?_
        refine g_getf (q0 := 75) (t := 0) (fi := 30) rfl rfl ff_X12_366 dX12_readsLine_72 rfl (sh_711 hOK10) ?_
        obtain ⟨p75, e75, h⟩ := gI_bd h
        refine g_callVq1 (as := [_, _]) (rest := []) mt_X12_wrongAt mi_X12_wrongAt se_X12_wrongAt ml_X12_269 dX12_readsLine_75 (q0 := 78) rfl rfl (sh_711 hOK10) rfl rfl (ok_wrongAt hOK10 e75) rfl ⟨by decide, by decide⟩ (Nat.le_of_ble_eq_true rfl) ⟨Nat.zero_le _, Nat.zero_le _⟩ ?_
        have hOK12 : gOK sh p75.2 := gOK_fr hOK10 (fr_wrongAt (b := p75) e75) (by first | decide | (intro a ha; simp only [List.mem_cons, List.not_mem_nil, or_false] at ha; omega)) (by decide)
        rw [← Option.some.inj h]
        refine g_zreturn dX12_readsLine_78 rfl (gnz (bo_wrongAt (b := p75) e75)) ⟨Nat.zero_le _, Nat.zero_le _⟩ ?_
        exact ⟨rfl, rfl, rfl⟩
  · replace h := gI_pos h20 h
    refine g_iload_n (q0 := 24) (j := 3) rfl dX12_readsLine_23 rfl ?_
    refine g_if_ne (q0 := 27) (tgt := 51) rfl dX12_readsLine_24 (by decide) (fun h24 => ?_) (fun h24 => ?_)
    · replace h := gI_neg h24 h
      refine g_iload_n (q0 := 52) (j := 2) rfl dX12_readsLine_51 rfl ?_
      refine g_if_le (q0 := 55) (tgt := 79) rfl dX12_readsLine_52 (by decide) (fun h52 => ?_) (fun h52 => ?_)
      · replace h := gI_neg (Int.not_lt.mpr h52) h
        exact ok_readsLine_79 hOK10 h
      · replace h := gI_pos h52 h
        refine g_aload_n (q0 := 56) (j := 0) rfl dX12_readsLine_55 rfl ?_
        refine g_getp (q0 := 59) (b := 729) rfl ff_X12_63 dX12_readsLine_56 rfl hOK10 (by decide) (sh_711 hOK10) rfl (by decide) ?_
        refine g_sipush (q0 := 62) rfl dX12_readsLine_59 (k := ?_)
        refine g_iload_n (q0 := 63) (j := 2) rfl dX12_readsLine_62 rfl ?_
        refine g_iaddw (q0 := 64) rfl dX12_readsLine_63 ?_
        obtain ⟨g13, h⟩ := gI_gd h
        refine g_iald (q0 := 65) rfl dX12_readsLine_64 (sh_729 hOK10) g13.1 g13.2 ?_
        refine g_iconst (q0 := 66) rfl dX12_readsLine_65 (k := ?_)
        refine g_icmp_ne (q0 := 69) (tgt := 79) rfl dX12_readsLine_66 (by decide) (fun h66 => ?_) (fun h66 => ?_)
        · replace h := gI_neg h66 h
          exact ok_readsLine_79 hOK10 h
        · replace h := gI_pos h66 h
          refine g_aload_n (q0 := 70) (j := 0) rfl dX12_readsLine_69 rfl ?_
          refine g_iconst (q0 := 71) rfl dX12_readsLine_70 (k := ?_)
          refine g_aload_n (q0 := 72) (j := 0) rfl dX12_readsLine_71 rfl ?_
          refine g_getf (q0 := 75) (t := 0) (fi := 30) rfl rfl ff_X12_366 dX12_readsLine_72 rfl (sh_711 hOK10) ?_
          obtain ⟨p75, e75, h⟩ := gI_bd h
          refine g_callVq1 (as := [_, _]) (rest := []) mt_X12_wrongAt mi_X12_wrongAt se_X12_wrongAt ml_X12_269 dX12_readsLine_75 (q0 := 78) rfl rfl (sh_711 hOK10) rfl rfl (ok_wrongAt hOK10 e75) rfl ⟨by decide, by decide⟩ (Nat.le_of_ble_eq_true rfl) ⟨Nat.zero_le _, Nat.zero_le _⟩ ?_
          have hOK14 : gOK sh p75.2 := gOK_fr hOK10 (fr_wrongAt (b := p75) e75) (by first | decide | (intro a ha; simp only [List.mem_cons, List.not_mem_nil, or_false] at ha; omega)) (by decide)
          rw [← Option.some.inj h]
          refine g_zreturn dX12_readsLine_78 rfl (gnz (bo_wrongAt (b := p75) e75)) ⟨Nat.zero_le _, Nat.zero_le _⟩ ?_
          exact ⟨rfl, rfl, rfl⟩
    · replace h := gI_pos h24 h
      refine g_iload_n (q0 := 28) (j := 1) rfl dX12_readsLine_27 rfl ?_
      refine g_ldcw (q0 := 31) (n := 632046) rfl co_X12_416 dX12_readsLine_28 (k := ?_)
      refine g_icmp_eq (q0 := 34) (tgt := 51) rfl dX12_readsLine_31 (by decide) (fun h31 => ?_) (fun h31 => ?_)
      · replace h := gI_pos h31 h
        refine g_iload_n (q0 := 52) (j := 2) rfl dX12_readsLine_51 rfl ?_
        refine g_if_le (q0 := 55) (tgt := 79) rfl dX12_readsLine_52 (by decide) (fun h52 => ?_) (fun h52 => ?_)
        · replace h := gI_neg (Int.not_lt.mpr h52) h
          exact ok_readsLine_79 hOK10 h
        · replace h := gI_pos h52 h
          refine g_aload_n (q0 := 56) (j := 0) rfl dX12_readsLine_55 rfl ?_
          refine g_getp (q0 := 59) (b := 729) rfl ff_X12_63 dX12_readsLine_56 rfl hOK10 (by decide) (sh_711 hOK10) rfl (by decide) ?_
          refine g_sipush (q0 := 62) rfl dX12_readsLine_59 (k := ?_)
          refine g_iload_n (q0 := 63) (j := 2) rfl dX12_readsLine_62 rfl ?_
          refine g_iaddw (q0 := 64) rfl dX12_readsLine_63 ?_
          obtain ⟨g15, h⟩ := gI_gd h
          refine g_iald (q0 := 65) rfl dX12_readsLine_64 (sh_729 hOK10) g15.1 g15.2 ?_
          refine g_iconst (q0 := 66) rfl dX12_readsLine_65 (k := ?_)
          refine g_icmp_ne (q0 := 69) (tgt := 79) rfl dX12_readsLine_66 (by decide) (fun h66 => ?_) (fun h66 => ?_)
          · replace h := gI_neg h66 h
            exact ok_readsLine_79 hOK10 h
          · replace h := gI_pos h66 h
            refine g_aload_n (q0 := 70) (j := 0) rfl dX12_readsLine_69 rfl ?_
            refine g_iconst (q0 := 71) rfl dX12_readsLine_70 (k := ?_)
            refine g_aload_n (q0 := 72) (j := 0) rfl dX12_readsLine_71 rfl ?_
            refine g_getf (q0 := 75) (t := 0) (fi := 30) rfl rfl ff_X12_366 dX12_readsLine_72 rfl (sh_711 hOK10) ?_
            obtain ⟨p75, e75, h⟩ := gI_bd h
            refine g_callVq1 (as := [_, _]) (rest := []) mt_X12_wrongAt mi_X12_wrongAt se_X12_wrongAt ml_X12_269 dX12_readsLine_75 (q0 := 78) rfl rfl (sh_711 hOK10) rfl rfl (ok_wrongAt hOK10 e75) rfl ⟨by decide, by decide⟩ (Nat.le_of_ble_eq_true rfl) ⟨Nat.zero_le _, Nat.zero_le _⟩ ?_
            have hOK16 : gOK sh p75.2 := gOK_fr hOK10 (fr_wrongAt (b := p75) e75) (by first | decide | (intro a ha; simp only [List.mem_cons, List.not_mem_nil, or_false] at ha; omega)) (by decide)
            rw [← Option.some.inj h]
            refine g_zreturn dX12_readsLine_78 rfl (gnz (bo_wrongAt (b := p75) e75)) ⟨Nat.zero_le _, Nat.zero_le _⟩ ?_
            exact ⟨rfl, rfl, rfl⟩
      · replace h := gI_neg h31 h
        refine g_iload_n (q0 := 35) (j := 1) rfl dX12_readsLine_34 rfl ?_
        refine g_ldcw (q0 := 38) (n := 634160) rfl co_X12_417 dX12_readsLine_35 (k := ?_)
        refine g_icmp_eq (q0 := 41) (tgt := 51) rfl dX12_readsLine_38 (by decide) (fun h38 => ?_) (fun h38 => ?_)
        · replace h := gI_pos h38 h
          refine g_iload_n (q0 := 52) (j := 2) rfl dX12_readsLine_51 rfl ?_
          refine g_if_le (q0 := 55) (tgt := 79) rfl dX12_readsLine_52 (by decide) (fun h52 => ?_) (fun h52 => ?_)
          · replace h := gI_neg (Int.not_lt.mpr h52) h
            exact ok_readsLine_79 hOK10 h
          · replace h := gI_pos h52 h
            refine g_aload_n (q0 := 56) (j := 0) rfl dX12_readsLine_55 rfl ?_
            refine g_getp (q0 := 59) (b := 729) rfl ff_X12_63 dX12_readsLine_56 rfl hOK10 (by decide) (sh_711 hOK10) rfl (by decide) ?_
            refine g_sipush (q0 := 62) rfl dX12_readsLine_59 (k := ?_)
            refine g_iload_n (q0 := 63) (j := 2) rfl dX12_readsLine_62 rfl ?_
            refine g_iaddw (q0 := 64) rfl dX12_readsLine_63 ?_
            obtain ⟨g17, h⟩ := gI_gd h
            refine g_iald (q0 := 65) rfl dX12_readsLine_64 (sh_729 hOK10) g17.1 g17.2 ?_
            refine g_iconst (q0 := 66) rfl dX12_readsLine_65 (k := ?_)
            refine g_icmp_ne (q0 := 69) (tgt := 79) rfl dX12_readsLine_66 (by decide) (fun h66 => ?_) (fun h66 => ?_)
            · replace h := gI_neg h66 h
              exact ok_readsLine_79 hOK10 h
            · replace h := gI_pos h66 h
              refine g_aload_n (q0 := 70) (j := 0) rfl dX12_readsLine_69 rfl ?_
              refine g_iconst (q0 := 71) rfl dX12_readsLine_70 (k := ?_)
              refine g_aload_n (q0 := 72) (j := 0) rfl dX12_readsLine_71 rfl ?_
              refine g_getf (q0 := 75) (t := 0) (fi := 30) rfl rfl ff_X12_366 dX12_readsLine_72 rfl (sh_711 hOK10) ?_
              obtain ⟨p75, e75, h⟩ := gI_bd h
              refine g_callVq1 (as := [_, _]) (rest := []) mt_X12_wrongAt mi_X12_wrongAt se_X12_wrongAt ml_X12_269 dX12_readsLine_75 (q0 := 78) rfl rfl (sh_711 hOK10) rfl rfl (ok_wrongAt hOK10 e75) rfl ⟨by decide, by decide⟩ (Nat.le_of_ble_eq_true rfl) ⟨Nat.zero_le _, Nat.zero_le _⟩ ?_
              have hOK18 : gOK sh p75.2 := gOK_fr hOK10 (fr_wrongAt (b := p75) e75) (by first | decide | (intro a ha; simp only [List.mem_cons, List.not_mem_nil, or_false] at ha; omega)) (by decide)
              rw [← Option.some.inj h]
              refine g_zreturn dX12_readsLine_78 rfl (gnz (bo_wrongAt (b := p75) e75)) ⟨Nat.zero_le _, Nat.zero_le _⟩ ?_
              exact ⟨rfl, rfl, rfl⟩
        · replace h := gI_neg h38 h
          refine g_aload_n (q0 := 42) (j := 0) rfl dX12_readsLine_41 rfl ?_
          refine g_iconst (q0 := 43) rfl dX12_readsLine_42 (k := ?_)
          refine g_aload_n (q0 := 44) (j := 0) rfl dX12_readsLine_43 rfl ?_
          refine g_getf (q0 := 47) (t := 0) (fi := 30) rfl rfl ff_X12_366 dX12_readsLine_44 rfl (sh_711 hOK10) ?_
          obtain ⟨p47, e47, h⟩ := gI_bd h
          refine g_callVq1 (as := [_, _]) (rest := []) mt_X12_wrongAt mi_X12_wrongAt se_X12_wrongAt ml_X12_269 dX12_readsLine_47 (q0 := 50) rfl rfl (sh_711 hOK10) rfl rfl (ok_wrongAt hOK10 e47) rfl ⟨by decide, by decide⟩ (Nat.le_of_ble_eq_true rfl) ⟨Nat.zero_le _, Nat.zero_le _⟩ ?_
          have hOK19 : gOK sh p47.2 := gOK_fr hOK10 (fr_wrongAt (b := p47) e47) (by first | decide | (intro a ha; simp only [List.mem_cons, List.not_mem_nil, or_false] at ha; omega)) (by decide)
          rw [← Option.some.inj h]
          refine g_zreturn dX12_readsLine_50 rfl (gnz (bo_wrongAt (b := p47) e47)) ⟨Nat.zero_le _, Nat.zero_le _⟩ ?_
          exact ⟨rfl, rfl, rfl⟩
-- ==== readsHistory
theorem dX12_readsHistory_0 : decode cX12_readsHistory 0 = .ok (.aload_n 0, 1) := by decide +kernel
theorem dX12_readsHistory_1 : decode cX12_readsHistory 1 = .ok (.invokevirtual 407, 3) := by decide +kernel
theorem dX12_readsHistory_4 : decode cX12_readsHistory 4 = .ok (.aload_n 0, 1) := by decide +kernel
theorem dX12_readsHistory_5 : decode cX12_readsHistory 5 = .ok (.getfield 369, 3) := by decide +kernel
theorem dX12_readsHistory_8 : decode cX12_readsHistory 8 = .ok (.iload_n 1, 1) := by decide +kernel
theorem dX12_readsHistory_9 : decode cX12_readsHistory 9 = .ok (.if_icmp .eq 13, 3) := by decide +kernel
theorem dX12_readsHistory_12 : decode cX12_readsHistory 12 = .ok (.aload_n 0, 1) := by decide +kernel
theorem dX12_readsHistory_13 : decode cX12_readsHistory 13 = .ok (.iconst 1, 1) := by decide +kernel
theorem dX12_readsHistory_14 : decode cX12_readsHistory 14 = .ok (.aload_n 0, 1) := by decide +kernel
theorem dX12_readsHistory_15 : decode cX12_readsHistory 15 = .ok (.getfield 366, 3) := by decide +kernel
theorem dX12_readsHistory_18 : decode cX12_readsHistory 18 = .ok (.invokevirtual 269, 3) := by decide +kernel
theorem dX12_readsHistory_21 : decode cX12_readsHistory 21 = .ok (.ireturn, 1) := by decide +kernel
theorem dX12_readsHistory_22 : decode cX12_readsHistory 22 = .ok (.aload_n 0, 1) := by decide +kernel
theorem dX12_readsHistory_23 : decode cX12_readsHistory 23 = .ok (.bipush 58, 2) := by decide +kernel
theorem dX12_readsHistory_25 : decode cX12_readsHistory 25 = .ok (.invokevirtual 297, 3) := by decide +kernel
theorem dX12_readsHistory_28 : decode cX12_readsHistory 28 = .ok (.ifCond .ne 5, 3) := by decide +kernel
theorem dX12_readsHistory_31 : decode cX12_readsHistory 31 = .ok (.iconst 0, 1) := by decide +kernel
theorem dX12_readsHistory_32 : decode cX12_readsHistory 32 = .ok (.ireturn, 1) := by decide +kernel
theorem dX12_readsHistory_33 : decode cX12_readsHistory 33 = .ok (.aload_n 0, 1) := by decide +kernel
theorem dX12_readsHistory_34 : decode cX12_readsHistory 34 = .ok (.getfield 256, 3) := by decide +kernel
theorem dX12_readsHistory_37 : decode cX12_readsHistory 37 = .ok (.istore_n 3, 1) := by decide +kernel
theorem dX12_readsHistory_38 : decode cX12_readsHistory 38 = .ok (.aload_n 0, 1) := by decide +kernel
theorem dX12_readsHistory_39 : decode cX12_readsHistory 39 = .ok (.iconst 0, 1) := by decide +kernel
theorem dX12_readsHistory_40 : decode cX12_readsHistory 40 = .ok (.iconst 3, 1) := by decide +kernel
theorem dX12_readsHistory_41 : decode cX12_readsHistory 41 = .ok (.invokevirtual 387, 3) := by decide +kernel
theorem dX12_readsHistory_44 : decode cX12_readsHistory 44 = .ok (.ifCond .ne 5, 3) := by decide +kernel
theorem dX12_readsHistory_47 : decode cX12_readsHistory 47 = .ok (.iconst 0, 1) := by decide +kernel
theorem dX12_readsHistory_48 : decode cX12_readsHistory 48 = .ok (.ireturn, 1) := by decide +kernel
theorem dX12_readsHistory_49 : decode cX12_readsHistory 49 = .ok (.iload_n 2, 1) := by decide +kernel
theorem dX12_readsHistory_50 : decode cX12_readsHistory 50 = .ok (.iconst 2, 1) := by decide +kernel
theorem dX12_readsHistory_51 : decode cX12_readsHistory 51 = .ok (.if_icmp .ne 25, 3) := by decide +kernel
theorem dX12_readsHistory_54 : decode cX12_readsHistory 54 = .ok (.aload_n 0, 1) := by decide +kernel
theorem dX12_readsHistory_55 : decode cX12_readsHistory 55 = .ok (.getfield 275, 3) := by decide +kernel
theorem dX12_readsHistory_58 : decode cX12_readsHistory 58 = .ok (.aload_n 0, 1) := by decide +kernel
theorem dX12_readsHistory_59 : decode cX12_readsHistory 59 = .ok (.getfield 63, 3) := by decide +kernel
theorem dX12_readsHistory_62 : decode cX12_readsHistory 62 = .ok (.sipush 273, 3) := by decide +kernel
theorem dX12_readsHistory_65 : decode cX12_readsHistory 65 = .ok (.iaload, 1) := by decide +kernel
theorem dX12_readsHistory_66 : decode cX12_readsHistory 66 = .ok (.if_icmp .ne 10, 3) := by decide +kernel
theorem dX12_readsHistory_69 : decode cX12_readsHistory 69 = .ok (.aload_n 0, 1) := by decide +kernel
theorem dX12_readsHistory_70 : decode cX12_readsHistory 70 = .ok (.iconst 3, 1) := by decide +kernel
theorem dX12_readsHistory_71 : decode cX12_readsHistory 71 = .ok (.iload_n 3, 1) := by decide +kernel
theorem dX12_readsHistory_72 : decode cX12_readsHistory 72 = .ok (.invokevirtual 269, 3) := by decide +kernel
theorem dX12_readsHistory_75 : decode cX12_readsHistory 75 = .ok (.ireturn, 1) := by decide +kernel
theorem dX12_readsHistory_76 : decode cX12_readsHistory 76 = .ok (.aload_n 0, 1) := by decide +kernel
theorem dX12_readsHistory_77 : decode cX12_readsHistory 77 = .ok (.getfield 63, 3) := by decide +kernel
theorem dX12_readsHistory_80 : decode cX12_readsHistory 80 = .ok (.sipush 272, 3) := by decide +kernel
theorem dX12_readsHistory_83 : decode cX12_readsHistory 83 = .ok (.iload_n 2, 1) := by decide +kernel
theorem dX12_readsHistory_84 : decode cX12_readsHistory 84 = .ok (.iadd, 1) := by decide +kernel
theorem dX12_readsHistory_85 : decode cX12_readsHistory 85 = .ok (.aload_n 0, 1) := by decide +kernel
theorem dX12_readsHistory_86 : decode cX12_readsHistory 86 = .ok (.getfield 275, 3) := by decide +kernel
theorem dX12_readsHistory_89 : decode cX12_readsHistory 89 = .ok (.iastore, 1) := by decide +kernel
theorem dX12_readsHistory_90 : decode cX12_readsHistory 90 = .ok (.iconst 1, 1) := by decide +kernel
theorem dX12_readsHistory_91 : decode cX12_readsHistory 91 = .ok (.ireturn, 1) := by decide +kernel
noncomputable def F_readsHistory (M : gM) (a1 a2 : Int) : Option (Int × gM) := (Option.bind (F_readsWord M) (fun m1 =>
    (if (m1 711 29) = a1 then
      (Option.bind (F_takesSign m1 58) (fun p25 =>
        (if p25.1 = 0 then
          some (0, p25.2)
        else
          (Option.bind (F_readsUpTo p25.2 0 3) (fun p41 =>
            (if p41.1 = 0 then
              some (0, p41.2)
            else
              (if a2 = 2 then
                (if (p41.2 711 22) = (p41.2 729 273) then
                  (Option.bind (F_wrongAt p41.2 3 (p25.2 711 19)) (fun p72 =>
                    some (p72.1, p72.2)))
                else
                  (if 0 ≤ (gw32 ((272 : Int) + a2)) ∧ (gw32 ((272 : Int) + a2)) < 340 then
                    some (1, (gU p41.2 729 (gw32 ((272 : Int) + a2)) (p41.2 711 22)))
                  else none))
              else
                (if 0 ≤ (gw32 ((272 : Int) + a2)) ∧ (gw32 ((272 : Int) + a2)) < 340 then
                  some (1, (gU p41.2 729 (gw32 ((272 : Int) + a2)) (p41.2 711 22)))
                else none))))))))
    else
      (Option.bind (F_wrongAt m1 1 (m1 711 30)) (fun p18 =>
        some (p18.1, p18.2))))))
theorem eq_readsHistory (M : gM) (a1 a2 : Int) : F_readsHistory M a1 a2 = (Option.bind (F_readsWord M) (fun m1 =>
    (if (m1 711 29) = a1 then
      (Option.bind (F_takesSign m1 58) (fun p25 =>
        (if p25.1 = 0 then
          some (0, p25.2)
        else
          (Option.bind (F_readsUpTo p25.2 0 3) (fun p41 =>
            (if p41.1 = 0 then
              some (0, p41.2)
            else
              (if a2 = 2 then
                (if (p41.2 711 22) = (p41.2 729 273) then
                  (Option.bind (F_wrongAt p41.2 3 (p25.2 711 19)) (fun p72 =>
                    some (p72.1, p72.2)))
                else
                  (if 0 ≤ (gw32 ((272 : Int) + a2)) ∧ (gw32 ((272 : Int) + a2)) < 340 then
                    some (1, (gU p41.2 729 (gw32 ((272 : Int) + a2)) (p41.2 711 22)))
                  else none))
              else
                (if 0 ≤ (gw32 ((272 : Int) + a2)) ∧ (gw32 ((272 : Int) + a2)) < 340 then
                  some (1, (gU p41.2 729 (gw32 ((272 : Int) + a2)) (p41.2 711 22)))
                else none))))))))
    else
      (Option.bind (F_wrongAt m1 1 (m1 711 30)) (fun p18 =>
        some (p18.1, p18.2)))))) := rfl
theorem fr_readsHistory {M : gM} {a1 a2 : Int} {b : Int × gM} (h : F_readsHistory M a1 a2 = some b) : gFr [729] [19, 21, 22, 29, 30] M b.2 := by
  rw [eq_readsHistory] at h
  obtain ⟨m1, e1, h⟩ := gI_bd h
  rcases gI_or h with h | h
  · obtain ⟨p25, e25, h⟩ := gI_bd h
    rcases gI_or h with h | h
    · rw [← Option.some.inj h]
      exact (gFr_t (gFr_t (gFr_r [729] [19, 21, 22, 29, 30] _) (fr_readsWord (b := m1) e1) (by first | decide | simp) (by decide)) (fr_takesSign (b := p25) e25) (by first | decide | simp) (by decide))
    · obtain ⟨p41, e41, h⟩ := gI_bd h
      rcases gI_or h with h | h
      · rw [← Option.some.inj h]
        exact (gFr_t (gFr_t (gFr_t (gFr_r [729] [19, 21, 22, 29, 30] _) (fr_readsWord (b := m1) e1) (by first | decide | simp) (by decide)) (fr_takesSign (b := p25) e25) (by first | decide | simp) (by decide)) (fr_readsUpTo (b := p41) e41) (by first | decide | simp) (by decide))
      · rcases gI_or h with h | h
        · rcases gI_or h with h | h
          · obtain ⟨p72, e72, h⟩ := gI_bd h
            rw [← Option.some.inj h]
            exact (gFr_t (gFr_t (gFr_t (gFr_t (gFr_r [729] [19, 21, 22, 29, 30] _) (fr_readsWord (b := m1) e1) (by first | decide | simp) (by decide)) (fr_takesSign (b := p25) e25) (by first | decide | simp) (by decide)) (fr_readsUpTo (b := p41) e41) (by first | decide | simp) (by decide)) (fr_wrongAt (b := p72) e72) (by first | decide | simp) (by decide))
          · obtain ⟨g6, h⟩ := gI_gd h
            rw [← Option.some.inj h]
            exact (gFr_a (gFr_t (gFr_t (gFr_t (gFr_r [729] [19, 21, 22, 29, 30] _) (fr_readsWord (b := m1) e1) (by first | decide | simp) (by decide)) (fr_takesSign (b := p25) e25) (by first | decide | simp) (by decide)) (fr_readsUpTo (b := p41) e41) (by first | decide | simp) (by decide)) (.head _) (by decide))
        · obtain ⟨g4, h⟩ := gI_gd h
          rw [← Option.some.inj h]
          exact (gFr_a (gFr_t (gFr_t (gFr_t (gFr_r [729] [19, 21, 22, 29, 30] _) (fr_readsWord (b := m1) e1) (by first | decide | simp) (by decide)) (fr_takesSign (b := p25) e25) (by first | decide | simp) (by decide)) (fr_readsUpTo (b := p41) e41) (by first | decide | simp) (by decide)) (.head _) (by decide))
  · obtain ⟨p18, e18, h⟩ := gI_bd h
    rw [← Option.some.inj h]
    exact (gFr_t (gFr_t (gFr_r [729] [19, 21, 22, 29, 30] _) (fr_readsWord (b := m1) e1) (by first | decide | simp) (by decide)) (fr_wrongAt (b := p18) e18) (by first | decide | simp) (by decide))
theorem bo_readsHistory {M : gM} {a1 a2 : Int} {b : Int × gM} (h : F_readsHistory M a1 a2 = some b) : b.1 = 0 ∨ b.1 = 1 := by
  rw [eq_readsHistory] at h
  obtain ⟨m1, e1, h⟩ := gI_bd h
  rcases gI_or h with h | h
  · obtain ⟨p25, e25, h⟩ := gI_bd h
    rcases gI_or h with h | h
    · rw [← Option.some.inj h]
      exact (Or.inl rfl)
    · obtain ⟨p41, e41, h⟩ := gI_bd h
      rcases gI_or h with h | h
      · rw [← Option.some.inj h]
        exact (Or.inl rfl)
      · rcases gI_or h with h | h
        · rcases gI_or h with h | h
          · obtain ⟨p72, e72, h⟩ := gI_bd h
            rw [← Option.some.inj h]
            exact (bo_wrongAt (b := p72) e72)
          · obtain ⟨g6, h⟩ := gI_gd h
            rw [← Option.some.inj h]
            exact (Or.inr rfl)
        · obtain ⟨g4, h⟩ := gI_gd h
          rw [← Option.some.inj h]
          exact (Or.inr rfl)
  · obtain ⟨p18, e18, h⟩ := gI_bd h
    rw [← Option.some.inj h]
    exact (bo_wrongAt (b := p18) e18)
theorem ok_readsHistory {sh : gS} {M : gM} {a1 a2 : Int} {b : Int × gM} (hOK : gOK sh M) (h : F_readsHistory M a1 a2 = some b) : gC (gr 3 64) yX12_readsHistory cX12_readsHistory 4 (some (.boolean)) [(4, 711), (0, a1), (0, a2)] sh M (gPq sh (some (0, b.1)) b.2) := by
  rw [eq_readsHistory] at h
  refine gC_ofA (lv := [_, _, _, _]) (by decide +kernel) (Nat.le_of_ble_eq_true rfl) rfl (fun hMw hav => ?_)
  refine g_aload_n (q0 := 1) (j := 0) rfl dX12_readsHistory_0 rfl ?_
  obtain ⟨m1, e1, h⟩ := gI_bd h
  refine g_callVq0 (as := []) (rest := []) mt_X12_readsWord mi_X12_readsWord se_X12_readsWord ml_X12_407 dX12_readsHistory_1 (q0 := 4) rfl rfl (sh_711 hOK) rfl rfl (ok_readsWord hOK e1) rfl ⟨by decide, by decide⟩ (Nat.le_of_ble_eq_true rfl) ⟨Nat.zero_le _, Nat.zero_le _⟩ ?_
  have hOK1 : gOK sh m1 := gOK_fr hOK (fr_readsWord (b := m1) e1) (by first | decide | (intro a ha; simp only [List.mem_cons, List.not_mem_nil, or_false] at ha; omega)) (by decide)
  refine g_aload_n (q0 := 5) (j := 0) rfl dX12_readsHistory_4 rfl ?_
  refine g_getf (q0 := 8) (t := 0) (fi := 29) rfl rfl ff_X12_369 dX12_readsHistory_5 rfl (sh_711 hOK1) ?_
  refine g_iload_n (q0 := 9) (j := 1) rfl dX12_readsHistory_8 rfl ?_
  refine g_icmp_eq (q0 := 12) (tgt := 22) rfl dX12_readsHistory_9 (by decide) (fun h9 => ?_) (fun h9 => ?_)
  · replace h := gI_pos h9 h
    refine g_aload_n (q0 := 23) (j := 0) rfl dX12_readsHistory_22 rfl ?_
    refine g_bipush (q0 := 25) rfl dX12_readsHistory_23 (k := ?_)
    obtain ⟨p25, e25, h⟩ := gI_bd h
    refine g_callVq1 (as := [_]) (rest := []) mt_X12_takesSign mi_X12_takesSign se_X12_takesSign ml_X12_297 dX12_readsHistory_25 (q0 := 28) rfl rfl (sh_711 hOK1) rfl rfl (ok_takesSign hOK1 e25) rfl ⟨by decide, by decide⟩ (Nat.le_of_ble_eq_true rfl) ⟨Nat.zero_le _, Nat.zero_le _⟩ ?_
    have hOK2 : gOK sh p25.2 := gOK_fr hOK1 (fr_takesSign (b := p25) e25) (by first | decide | (intro a ha; simp only [List.mem_cons, List.not_mem_nil, or_false] at ha; omega)) (by decide)
    refine g_if_ne (q0 := 31) (tgt := 33) rfl dX12_readsHistory_28 (by decide) (fun h28 => ?_) (fun h28 => ?_)
    · replace h := gI_neg h28 h
      refine g_aload_n (q0 := 34) (j := 0) rfl dX12_readsHistory_33 rfl ?_
      refine g_getf (q0 := 37) (t := 0) (fi := 19) rfl rfl ff_X12_256 dX12_readsHistory_34 rfl (sh_711 hOK2) ?_
      refine g_istore_n (q0 := 38) (j := 3) (lv2 := [_, _, _, _]) rfl dX12_readsHistory_37 (by decide) rfl rfl ?_
      refine g_aload_n (q0 := 39) (j := 0) rfl dX12_readsHistory_38 rfl ?_
      refine g_iconst (q0 := 40) rfl dX12_readsHistory_39 (k := ?_)
      refine g_iconst (q0 := 41) rfl dX12_readsHistory_40 (k := ?_)
      obtain ⟨p41, e41, h⟩ := gI_bd h
      refine g_callVq1 (as := [_, _]) (rest := []) mt_X12_readsUpTo mi_X12_readsUpTo se_X12_readsUpTo ml_X12_387 dX12_readsHistory_41 (q0 := 44) rfl rfl (sh_711 hOK2) rfl rfl (ok_readsUpTo hOK2 e41) rfl ⟨by decide, by decide⟩ (Nat.le_of_ble_eq_true rfl) ⟨Nat.zero_le _, Nat.zero_le _⟩ ?_
      have hOK3 : gOK sh p41.2 := gOK_fr hOK2 (fr_readsUpTo (b := p41) e41) (by first | decide | (intro a ha; simp only [List.mem_cons, List.not_mem_nil, or_false] at ha; omega)) (by decide)
      refine g_if_ne (q0 := 47) (tgt := 49) rfl dX12_readsHistory_44 (by decide) (fun h44 => ?_) (fun h44 => ?_)
      · replace h := gI_neg h44 h
        refine g_iload_n (q0 := 50) (j := 2) rfl dX12_readsHistory_49 rfl ?_
        refine g_iconst (q0 := 51) rfl dX12_readsHistory_50 (k := ?_)
        refine g_icmp_ne (q0 := 54) (tgt := 76) rfl dX12_readsHistory_51 (by decide) (fun h51 => ?_) (fun h51 => ?_)
        · replace h := gI_neg h51 h
          refine g_aload_n (q0 := 77) (j := 0) rfl dX12_readsHistory_76 rfl ?_
          refine g_getp (q0 := 80) (b := 729) rfl ff_X12_63 dX12_readsHistory_77 rfl hOK3 (by decide) (sh_711 hOK3) rfl (by decide) ?_
          refine g_sipush (q0 := 83) rfl dX12_readsHistory_80 (k := ?_)
          refine g_iload_n (q0 := 84) (j := 2) rfl dX12_readsHistory_83 rfl ?_
          refine g_iaddw (q0 := 85) rfl dX12_readsHistory_84 ?_
          refine g_aload_n (q0 := 86) (j := 0) rfl dX12_readsHistory_85 rfl ?_
          refine g_getf (q0 := 89) (t := 0) (fi := 22) rfl rfl ff_X12_275 dX12_readsHistory_86 rfl (sh_711 hOK3) ?_
          obtain ⟨g4, h⟩ := gI_gd h
          refine g_iast (q0 := 90) rfl dX12_readsHistory_89 (sh_729 hOK3) g4.1 g4.2 ?_
          have hOK5 : gOK sh (gU p41.2 729 (gw32 ((272 : Int) + a2)) (p41.2 711 22)) := gOK_i hOK3 (sh_729 hOK3)
          refine g_iconst (q0 := 91) rfl dX12_readsHistory_90 (k := ?_)
          rw [← Option.some.inj h]
          refine g_zreturn dX12_readsHistory_91 rfl (gnz (Or.inr rfl)) ⟨Nat.zero_le _, Nat.zero_le _⟩ ?_
          exact ⟨rfl, rfl, rfl⟩
        · replace h := gI_pos h51 h
          refine g_aload_n (q0 := 55) (j := 0) rfl dX12_readsHistory_54 rfl ?_
          refine g_getf (q0 := 58) (t := 0) (fi := 22) rfl rfl ff_X12_275 dX12_readsHistory_55 rfl (sh_711 hOK3) ?_
          refine g_aload_n (q0 := 59) (j := 0) rfl dX12_readsHistory_58 rfl ?_
          refine g_getp (q0 := 62) (b := 729) rfl ff_X12_63 dX12_readsHistory_59 rfl hOK3 (by decide) (sh_711 hOK3) rfl (by decide) ?_
          refine g_sipush (q0 := 65) rfl dX12_readsHistory_62 (k := ?_)
          refine g_iald (q0 := 66) rfl dX12_readsHistory_65 (sh_729 hOK3) (by decide) (by decide) ?_
          refine g_icmp_ne (q0 := 69) (tgt := 76) rfl dX12_readsHistory_66 (by decide) (fun h66 => ?_) (fun h66 => ?_)
          · replace h := gI_neg h66 h
            refine g_aload_n (q0 := 77) (j := 0) rfl dX12_readsHistory_76 rfl ?_
            refine g_getp (q0 := 80) (b := 729) rfl ff_X12_63 dX12_readsHistory_77 rfl hOK3 (by decide) (sh_711 hOK3) rfl (by decide) ?_
            refine g_sipush (q0 := 83) rfl dX12_readsHistory_80 (k := ?_)
            refine g_iload_n (q0 := 84) (j := 2) rfl dX12_readsHistory_83 rfl ?_
            refine g_iaddw (q0 := 85) rfl dX12_readsHistory_84 ?_
            refine g_aload_n (q0 := 86) (j := 0) rfl dX12_readsHistory_85 rfl ?_
            refine g_getf (q0 := 89) (t := 0) (fi := 22) rfl rfl ff_X12_275 dX12_readsHistory_86 rfl (sh_711 hOK3) ?_
            obtain ⟨g6, h⟩ := gI_gd h
            refine g_iast (q0 := 90) rfl dX12_readsHistory_89 (sh_729 hOK3) g6.1 g6.2 ?_
            have hOK7 : gOK sh (gU p41.2 729 (gw32 ((272 : Int) + a2)) (p41.2 711 22)) := gOK_i hOK3 (sh_729 hOK3)
            refine g_iconst (q0 := 91) rfl dX12_readsHistory_90 (k := ?_)
            rw [← Option.some.inj h]
            refine g_zreturn dX12_readsHistory_91 rfl (gnz (Or.inr rfl)) ⟨Nat.zero_le _, Nat.zero_le _⟩ ?_
            exact ⟨rfl, rfl, rfl⟩
          · replace h := gI_pos h66 h
            refine g_aload_n (q0 := 70) (j := 0) rfl dX12_readsHistory_69 rfl ?_
            refine g_iconst (q0 := 71) rfl dX12_readsHistory_70 (k := ?_)
            refine g_iload_n (q0 := 72) (j := 3) rfl dX12_readsHistory_71 rfl ?_
            obtain ⟨p72, e72, h⟩ := gI_bd h
            refine g_callVq1 (as := [_, _]) (rest := []) mt_X12_wrongAt mi_X12_wrongAt se_X12_wrongAt ml_X12_269 dX12_readsHistory_72 (q0 := 75) rfl rfl (sh_711 hOK3) rfl rfl (ok_wrongAt hOK3 e72) rfl ⟨by decide, by decide⟩ (Nat.le_of_ble_eq_true rfl) ⟨Nat.zero_le _, Nat.zero_le _⟩ ?_
            have hOK8 : gOK sh p72.2 := gOK_fr hOK3 (fr_wrongAt (b := p72) e72) (by first | decide | (intro a ha; simp only [List.mem_cons, List.not_mem_nil, or_false] at ha; omega)) (by decide)
            rw [← Option.some.inj h]
            refine g_zreturn dX12_readsHistory_75 rfl (gnz (bo_wrongAt (b := p72) e72)) ⟨Nat.zero_le _, Nat.zero_le _⟩ ?_
            exact ⟨rfl, rfl, rfl⟩
      · replace h := gI_pos h44 h
        refine g_iconst (q0 := 48) rfl dX12_readsHistory_47 (k := ?_)
        rw [← Option.some.inj h]
        refine g_zreturn dX12_readsHistory_48 rfl (gnz (Or.inl rfl)) ⟨Nat.zero_le _, Nat.zero_le _⟩ ?_
        exact ⟨rfl, rfl, rfl⟩
    · replace h := gI_pos h28 h
      refine g_iconst (q0 := 32) rfl dX12_readsHistory_31 (k := ?_)
      rw [← Option.some.inj h]
      refine g_zreturn dX12_readsHistory_32 rfl (gnz (Or.inl rfl)) ⟨Nat.zero_le _, Nat.zero_le _⟩ ?_
      exact ⟨rfl, rfl, rfl⟩
  · replace h := gI_neg h9 h
    refine g_aload_n (q0 := 13) (j := 0) rfl dX12_readsHistory_12 rfl ?_
    refine g_iconst (q0 := 14) rfl dX12_readsHistory_13 (k := ?_)
    refine g_aload_n (q0 := 15) (j := 0) rfl dX12_readsHistory_14 rfl ?_
    refine g_getf (q0 := 18) (t := 0) (fi := 30) rfl rfl ff_X12_366 dX12_readsHistory_15 rfl (sh_711 hOK1) ?_
    obtain ⟨p18, e18, h⟩ := gI_bd h
    refine g_callVq1 (as := [_, _]) (rest := []) mt_X12_wrongAt mi_X12_wrongAt se_X12_wrongAt ml_X12_269 dX12_readsHistory_18 (q0 := 21) rfl rfl (sh_711 hOK1) rfl rfl (ok_wrongAt hOK1 e18) rfl ⟨by decide, by decide⟩ (Nat.le_of_ble_eq_true rfl) ⟨Nat.zero_le _, Nat.zero_le _⟩ ?_
    have hOK9 : gOK sh p18.2 := gOK_fr hOK1 (fr_wrongAt (b := p18) e18) (by first | decide | (intro a ha; simp only [List.mem_cons, List.not_mem_nil, or_false] at ha; omega)) (by decide)
    rw [← Option.some.inj h]
    refine g_zreturn dX12_readsHistory_21 rfl (gnz (bo_wrongAt (b := p18) e18)) ⟨Nat.zero_le _, Nat.zero_le _⟩ ?_
    exact ⟨rfl, rfl, rfl⟩
