-- ==== X11_likeness
theorem dX11_likeness_0 : decode cX11_likeness 0 = .ok (.aload_n 0, 1) := by decide +kernel
theorem dX11_likeness_1 : decode cX11_likeness 1 = .ok (.getfield 27, 3) := by decide +kernel
theorem dX11_likeness_4 : decode cX11_likeness 4 = .ok (.iload_n 1, 1) := by decide +kernel
theorem dX11_likeness_5 : decode cX11_likeness 5 = .ok (.invokevirtual 152, 3) := by decide +kernel
theorem dX11_likeness_8 : decode cX11_likeness 8 = .ok (.ifCond .eq 40, 3) := by decide +kernel
theorem dX11_likeness_11 : decode cX11_likeness 11 = .ok (.aload_n 0, 1) := by decide +kernel
theorem dX11_likeness_12 : decode cX11_likeness 12 = .ok (.getfield 27, 3) := by decide +kernel
theorem dX11_likeness_15 : decode cX11_likeness 15 = .ok (.iload_n 3, 1) := by decide +kernel
theorem dX11_likeness_16 : decode cX11_likeness 16 = .ok (.invokevirtual 152, 3) := by decide +kernel
theorem dX11_likeness_19 : decode cX11_likeness 19 = .ok (.ifCond .eq 29, 3) := by decide +kernel
theorem dX11_likeness_22 : decode cX11_likeness 22 = .ok (.iload_n 2, 1) := by decide +kernel
theorem dX11_likeness_23 : decode cX11_likeness 23 = .ok (.invokestatic 591, 3) := by decide +kernel
theorem dX11_likeness_26 : decode cX11_likeness 26 = .ok (.ifCond .eq 22, 3) := by decide +kernel
theorem dX11_likeness_29 : decode cX11_likeness 29 = .ok (.iload 4, 2) := by decide +kernel
theorem dX11_likeness_31 : decode cX11_likeness 31 = .ok (.invokestatic 591, 3) := by decide +kernel
theorem dX11_likeness_34 : decode cX11_likeness 34 = .ok (.ifCond .eq 14, 3) := by decide +kernel
theorem dX11_likeness_37 : decode cX11_likeness 37 = .ok (.iload 5, 2) := by decide +kernel
theorem dX11_likeness_39 : decode cX11_likeness 39 = .ok (.ifCond .lt 9, 3) := by decide +kernel
theorem dX11_likeness_42 : decode cX11_likeness 42 = .ok (.iload 5, 2) := by decide +kernel
theorem dX11_likeness_44 : decode cX11_likeness 44 = .ok (.iconst 1, 1) := by decide +kernel
theorem dX11_likeness_45 : decode cX11_likeness 45 = .ok (.if_icmp .le 5, 3) := by decide +kernel
theorem dX11_likeness_48 : decode cX11_likeness 48 = .ok (.iconst (-1), 1) := by decide +kernel
theorem dX11_likeness_49 : decode cX11_likeness 49 = .ok (.ireturn, 1) := by decide +kernel
theorem dX11_likeness_50 : decode cX11_likeness 50 = .ok (.aload_n 0, 1) := by decide +kernel
theorem dX11_likeness_51 : decode cX11_likeness 51 = .ok (.getfield 27, 3) := by decide +kernel
theorem dX11_likeness_54 : decode cX11_likeness 54 = .ok (.iload_n 1, 1) := by decide +kernel
theorem dX11_likeness_55 : decode cX11_likeness 55 = .ok (.invokevirtual 155, 3) := by decide +kernel
theorem dX11_likeness_58 : decode cX11_likeness 58 = .ok (.astore 6, 2) := by decide +kernel
theorem dX11_likeness_60 : decode cX11_likeness 60 = .ok (.aload_n 0, 1) := by decide +kernel
theorem dX11_likeness_61 : decode cX11_likeness 61 = .ok (.getfield 27, 3) := by decide +kernel
theorem dX11_likeness_64 : decode cX11_likeness 64 = .ok (.iload_n 3, 1) := by decide +kernel
theorem dX11_likeness_65 : decode cX11_likeness 65 = .ok (.invokevirtual 155, 3) := by decide +kernel
theorem dX11_likeness_68 : decode cX11_likeness 68 = .ok (.astore 7, 2) := by decide +kernel
theorem dX11_likeness_70 : decode cX11_likeness 70 = .ok (.iload_n 2, 1) := by decide +kernel
theorem dX11_likeness_71 : decode cX11_likeness 71 = .ok (.aload 6, 2) := by decide +kernel
theorem dX11_likeness_73 : decode cX11_likeness 73 = .ok (.getfield 159, 3) := by decide +kernel
theorem dX11_likeness_76 : decode cX11_likeness 76 = .ok (.if_icmp .ge 13, 3) := by decide +kernel
theorem dX11_likeness_79 : decode cX11_likeness 79 = .ok (.iload 4, 2) := by decide +kernel
theorem dX11_likeness_81 : decode cX11_likeness 81 = .ok (.aload 7, 2) := by decide +kernel
theorem dX11_likeness_83 : decode cX11_likeness 83 = .ok (.getfield 159, 3) := by decide +kernel
theorem dX11_likeness_86 : decode cX11_likeness 86 = .ok (.if_icmp .lt 6, 3) := by decide +kernel
theorem dX11_likeness_89 : decode cX11_likeness 89 = .ok (.bipush (-4), 2) := by decide +kernel
theorem dX11_likeness_91 : decode cX11_likeness 91 = .ok (.ireturn, 1) := by decide +kernel
theorem dX11_likeness_92 : decode cX11_likeness 92 = .ok (.aload_n 0, 1) := by decide +kernel
theorem dX11_likeness_93 : decode cX11_likeness 93 = .ok (.getfield 62, 3) := by decide +kernel
theorem dX11_likeness_96 : decode cX11_likeness 96 = .ok (.aload 6, 2) := by decide +kernel
theorem dX11_likeness_98 : decode cX11_likeness 98 = .ok (.getfield 594, 3) := by decide +kernel
theorem dX11_likeness_101 : decode cX11_likeness 101 = .ok (.iload_n 2, 1) := by decide +kernel
theorem dX11_likeness_102 : decode cX11_likeness 102 = .ok (.iaload, 1) := by decide +kernel
theorem dX11_likeness_103 : decode cX11_likeness 103 = .ok (.aload 7, 2) := by decide +kernel
theorem dX11_likeness_105 : decode cX11_likeness 105 = .ok (.getfield 594, 3) := by decide +kernel
theorem dX11_likeness_108 : decode cX11_likeness 108 = .ok (.iload 4, 2) := by decide +kernel
theorem dX11_likeness_110 : decode cX11_likeness 110 = .ok (.iaload, 1) := by decide +kernel
theorem dX11_likeness_111 : decode cX11_likeness 111 = .ok (.invokevirtual 597, 3) := by decide +kernel
theorem dX11_likeness_114 : decode cX11_likeness 114 = .ok (.fstore 8, 2) := by decide +kernel
theorem dX11_likeness_116 : decode cX11_likeness 116 = .ok (.iload 5, 2) := by decide +kernel
theorem dX11_likeness_118 : decode cX11_likeness 118 = .ok (.ifCond .ne 11, 3) := by decide +kernel
theorem dX11_likeness_121 : decode cX11_likeness 121 = .ok (.fload 8, 2) := by decide +kernel
theorem dX11_likeness_123 : decode cX11_likeness 123 = .ok (.invokestatic 584, 3) := by decide +kernel
theorem dX11_likeness_126 : decode cX11_likeness 126 = .ok (.goto 8, 3) := by decide +kernel
theorem dX11_likeness_129 : decode cX11_likeness 129 = .ok (.fload 8, 2) := by decide +kernel
theorem dX11_likeness_131 : decode cX11_likeness 131 = .ok (.invokestatic 588, 3) := by decide +kernel
theorem dX11_likeness_134 : decode cX11_likeness 134 = .ok (.ireturn, 1) := by decide +kernel
theorem w_X11_likeness {sh : gS} {Q : Option gV → gS → gM → Prop} {a1 a2 a3 a4 a5 : Int} {M : gM} (hOK : gOK sh M) (h : (∃ v5 : Int, gC (gr 0 0) yX1_has cX1_has 2 (some (.boolean)) [(4, 4), (0, a1)] sh M (gPp sh M (0, v5)) ∧
    (if v5 = 0 then
      (Q (some (0, -1)) sh M)
    else
      (∃ v16 : Int, gC (gr 0 0) yX1_has cX1_has 2 (some (.boolean)) [(4, 4), (0, a3)] sh M (gPp sh M (0, v16)) ∧
        (if v16 = 0 then
          (Q (some (0, -1)) sh M)
        else
          (∃ v23 : Int, gC (gr 0 0) yX11_isFile cX11_isFile 1 (some (.boolean)) [(0, a2)] sh M (gPp sh M (0, v23)) ∧
            (if v23 = 0 then
              (Q (some (0, -1)) sh M)
            else
              (∃ v31 : Int, gC (gr 0 0) yX11_isFile cX11_isFile 1 (some (.boolean)) [(0, a4)] sh M (gPp sh M (0, v31)) ∧
                (if v31 = 0 then
                  (Q (some (0, -1)) sh M)
                else
                  (if a5 < 0 then
                    (Q (some (0, -1)) sh M)
                  else
                    (if (1 : Int) < a5 then
                      (Q (some (0, -1)) sh M)
                    else
                      (∃ v55 : Int, gC (gr 0 0) yX1_tree cX1_tree 2 (some (.object "CarriedHistory$Tree")) [(4, 4), (0, a1)] sh M (gPp sh M (4, v55)) ∧
                        (∃ v65 : Int, gC (gr 0 0) yX1_tree cX1_tree 2 (some (.object "CarriedHistory$Tree")) [(4, 4), (0, a3)] sh M (gPp sh M (4, v65)) ∧
                          ((gsh sh v55 = some (0, 11) ∧ v55 < 758) ∧
                            (if a2 < (M v55 2) then
                              ((gsh sh v65 = some (0, 11) ∧ v65 < 758) ∧
                                (if a4 < (M v65 2) then
                                  (∃ n3 : Nat, gsh sh (v55 + 2) = some (1, n3) ∧
                                    ((0 ≤ a2 ∧ a2 < (n3 : Int)) ∧
                                      (∃ n5 : Nat, gsh sh (v65 + 2) = some (1, n5) ∧
                                        ((0 ≤ a4 ∧ a4 < (n5 : Int)) ∧
                                          (∃ P111 : Option gV → gM → Prop, gC (gr 2 49) yX0_alike cX0_alike 5 (some (.float)) [(4, 440), (0, (M (v55 + 2) a2)), (0, (M (v65 + 2) a4))] sh M (gPm sh P111) ∧ ∀ (r111 : Option gV) (M111 : gM), P111 r111 M111 → ∃ v111 : Int, r111 = some (2, v111) ∧ gOK sh M111 ∧
                                            (if a5 = 0 then
                                              (∃ v123 : Int, gC (gr 0 0) yX11_floatBits cX11_floatBits 5 (some (.int)) [(2, v111)] sh M111 (gPp sh M111 (0, v123)) ∧
                                                (Q (some (0, v123)) sh M111))
                                            else
                                              (∃ v131 : Int, gC (gr 0 0) yX11_hundredths cX11_hundredths 1 (some (.int)) [(2, v111)] sh M111 (gPp sh M111 (0, v131)) ∧
                                                (Q (some (0, v131)) sh M111))))))))
                                else
                                  (Q (some (0, -4)) sh M)))
                            else
                              (Q (some (0, -4)) sh M)))))))))))))))) : gC (gr 3 73) yX11_likeness cX11_likeness 9 (some (.int)) [(4, 0), (0, a1), (0, a2), (0, a3), (0, a4), (0, a5)] sh M Q := by
  refine gC_ofA (lv := [_, _, _, _, _, _, _, _, _]) (by decide +kernel) (Nat.le_of_ble_eq_true rfl) rfl (fun hMw hav => ?_)
  refine g_aload_n (q0 := 1) (j := 0) rfl dX11_likeness_0 rfl ?_
  refine g_getp (q0 := 4) (b := 4) rfl ff_X11_27 dX11_likeness_1 rfl hOK (by decide) (sh_0 hOK) rfl (by decide) ?_
  refine g_iload_n (q0 := 5) (j := 1) rfl dX11_likeness_4 rfl ?_
  obtain ⟨v5, e5, h⟩ := h
  refine g_callVp (as := [_]) (rest := []) mt_X1_has mi_X1_has se_X1_has ml_X11_152 dX11_likeness_5 (q0 := 8) rfl rfl (sh_4 hOK) rfl rfl e5 rfl ⟨by decide, by decide⟩ (Nat.le_of_ble_eq_true rfl) ⟨Nat.zero_le _, Nat.zero_le _⟩ (fun _ => ?_)
  refine g_if_eq (q0 := 11) (tgt := 48) rfl dX11_likeness_8 (by decide) (fun h8 => ?_) (fun h8 => ?_)
  · replace h := wI_pos h8 h
    refine g_iconst (q0 := 49) rfl dX11_likeness_48 (k := ?_)
    exact g_ireturn dX11_likeness_49 rfl ⟨Nat.zero_le _, Nat.zero_le _⟩ h
  · replace h := wI_neg h8 h
    refine g_aload_n (q0 := 12) (j := 0) rfl dX11_likeness_11 rfl ?_
    refine g_getp (q0 := 15) (b := 4) rfl ff_X11_27 dX11_likeness_12 rfl hOK (by decide) (sh_0 hOK) rfl (by decide) ?_
    refine g_iload_n (q0 := 16) (j := 3) rfl dX11_likeness_15 rfl ?_
    obtain ⟨v16, e16, h⟩ := h
    refine g_callVp (as := [_]) (rest := []) mt_X1_has mi_X1_has se_X1_has ml_X11_152 dX11_likeness_16 (q0 := 19) rfl rfl (sh_4 hOK) rfl rfl e16 rfl ⟨by decide, by decide⟩ (Nat.le_of_ble_eq_true rfl) ⟨Nat.zero_le _, Nat.zero_le _⟩ (fun _ => ?_)
    refine g_if_eq (q0 := 22) (tgt := 48) rfl dX11_likeness_19 (by decide) (fun h19 => ?_) (fun h19 => ?_)
    · replace h := wI_pos h19 h
      refine g_iconst (q0 := 49) rfl dX11_likeness_48 (k := ?_)
      exact g_ireturn dX11_likeness_49 rfl ⟨Nat.zero_le _, Nat.zero_le _⟩ h
    · replace h := wI_neg h19 h
      refine g_iload_n (q0 := 23) (j := 2) rfl dX11_likeness_22 rfl ?_
      obtain ⟨v23, e23, h⟩ := h
      refine g_callSp (as := [_]) (rest := []) mt_X11_isFile ms_X11_isFile ml_X11_591 dX11_likeness_23 (q0 := 26) rfl rfl e23 rfl ⟨by decide, by decide⟩ (Nat.le_of_ble_eq_true rfl) ⟨Nat.zero_le _, Nat.zero_le _⟩ (fun _ => ?_)
      refine g_if_eq (q0 := 29) (tgt := 48) rfl dX11_likeness_26 (by decide) (fun h26 => ?_) (fun h26 => ?_)
      · replace h := wI_pos h26 h
        refine g_iconst (q0 := 49) rfl dX11_likeness_48 (k := ?_)
        exact g_ireturn dX11_likeness_49 rfl ⟨Nat.zero_le _, Nat.zero_le _⟩ h
      · replace h := wI_neg h26 h
        refine g_iload (q0 := 31) (j := 4) rfl dX11_likeness_29 rfl ?_
        obtain ⟨v31, e31, h⟩ := h
        refine g_callSp (as := [_]) (rest := []) mt_X11_isFile ms_X11_isFile ml_X11_591 dX11_likeness_31 (q0 := 34) rfl rfl e31 rfl ⟨by decide, by decide⟩ (Nat.le_of_ble_eq_true rfl) ⟨Nat.zero_le _, Nat.zero_le _⟩ (fun _ => ?_)
        refine g_if_eq (q0 := 37) (tgt := 48) rfl dX11_likeness_34 (by decide) (fun h34 => ?_) (fun h34 => ?_)
        · replace h := wI_pos h34 h
          refine g_iconst (q0 := 49) rfl dX11_likeness_48 (k := ?_)
          exact g_ireturn dX11_likeness_49 rfl ⟨Nat.zero_le _, Nat.zero_le _⟩ h
        · replace h := wI_neg h34 h
          refine g_iload (q0 := 39) (j := 5) rfl dX11_likeness_37 rfl ?_
          refine g_if_lt (q0 := 42) (tgt := 48) rfl dX11_likeness_39 (by decide) (fun h39 => ?_) (fun h39 => ?_)
          · replace h := wI_pos h39 h
            refine g_iconst (q0 := 49) rfl dX11_likeness_48 (k := ?_)
            exact g_ireturn dX11_likeness_49 rfl ⟨Nat.zero_le _, Nat.zero_le _⟩ h
          · replace h := wI_neg (Int.not_lt.mpr h39) h
            refine g_iload (q0 := 44) (j := 5) rfl dX11_likeness_42 rfl ?_
            refine g_iconst (q0 := 45) rfl dX11_likeness_44 (k := ?_)
            refine g_icmp_le (q0 := 48) (tgt := 50) rfl dX11_likeness_45 (by decide) (fun h45 => ?_) (fun h45 => ?_)
            · replace h := wI_neg (Int.not_lt.mpr h45) h
              refine g_aload_n (q0 := 51) (j := 0) rfl dX11_likeness_50 rfl ?_
              refine g_getp (q0 := 54) (b := 4) rfl ff_X11_27 dX11_likeness_51 rfl hOK (by decide) (sh_0 hOK) rfl (by decide) ?_
              refine g_iload_n (q0 := 55) (j := 1) rfl dX11_likeness_54 rfl ?_
              obtain ⟨v55, e55, h⟩ := h
              refine g_callVp (as := [_]) (rest := []) mt_X1_tree mi_X1_tree se_X1_tree ml_X11_155 dX11_likeness_55 (q0 := 58) rfl rfl (sh_4 hOK) rfl rfl e55 rfl ⟨by decide, by decide⟩ (Nat.le_of_ble_eq_true rfl) ⟨Nat.zero_le _, Nat.zero_le _⟩ (fun _ => ?_)
              refine g_astore (q0 := 60) (j := 6) (lv2 := [_, _, _, _, _, _, _, _, _]) rfl dX11_likeness_58 (by decide) rfl rfl ?_
              refine g_aload_n (q0 := 61) (j := 0) rfl dX11_likeness_60 rfl ?_
              refine g_getp (q0 := 64) (b := 4) rfl ff_X11_27 dX11_likeness_61 rfl hOK (by decide) (sh_0 hOK) rfl (by decide) ?_
              refine g_iload_n (q0 := 65) (j := 3) rfl dX11_likeness_64 rfl ?_
              obtain ⟨v65, e65, h⟩ := h
              refine g_callVp (as := [_]) (rest := []) mt_X1_tree mi_X1_tree se_X1_tree ml_X11_155 dX11_likeness_65 (q0 := 68) rfl rfl (sh_4 hOK) rfl rfl e65 rfl ⟨by decide, by decide⟩ (Nat.le_of_ble_eq_true rfl) ⟨Nat.zero_le _, Nat.zero_le _⟩ (fun _ => ?_)
              refine g_astore (q0 := 70) (j := 7) (lv2 := [_, _, _, _, _, _, _, _, _]) rfl dX11_likeness_68 (by decide) rfl rfl ?_
              refine g_iload_n (q0 := 71) (j := 2) rfl dX11_likeness_70 rfl ?_
              refine g_aload (q0 := 73) (j := 6) rfl dX11_likeness_71 rfl ?_
              obtain ⟨g1, h⟩ := h
              refine g_getf (q0 := 76) (t := 0) (fi := 2) rfl rfl ff_X11_159 dX11_likeness_73 rfl g1.1 ?_
              refine g_icmp_ge (q0 := 79) (tgt := 89) rfl dX11_likeness_76 (by decide) (fun h76 => ?_) (fun h76 => ?_)
              · replace h := wI_neg (Int.not_lt.mpr h76) h
                refine g_bipush (q0 := 91) rfl dX11_likeness_89 (k := ?_)
                exact g_ireturn dX11_likeness_91 rfl ⟨Nat.zero_le _, Nat.zero_le _⟩ h
              · replace h := wI_pos h76 h
                refine g_iload (q0 := 81) (j := 4) rfl dX11_likeness_79 rfl ?_
                refine g_aload (q0 := 83) (j := 7) rfl dX11_likeness_81 rfl ?_
                obtain ⟨g2, h⟩ := h
                refine g_getf (q0 := 86) (t := 0) (fi := 2) rfl rfl ff_X11_159 dX11_likeness_83 rfl g2.1 ?_
                refine g_icmp_lt (q0 := 89) (tgt := 92) rfl dX11_likeness_86 (by decide) (fun h86 => ?_) (fun h86 => ?_)
                · replace h := wI_pos h86 h
                  refine g_aload_n (q0 := 93) (j := 0) rfl dX11_likeness_92 rfl ?_
                  refine g_getp (q0 := 96) (b := 440) rfl ff_X11_62 dX11_likeness_93 rfl hOK (by decide) (sh_0 hOK) rfl (by decide) ?_
                  refine g_aload (q0 := 98) (j := 6) rfl dX11_likeness_96 rfl ?_
                  refine g_getp (q0 := 101) (b := (v55 + 2)) rfl ff_X11_594 dX11_likeness_98 rfl hOK g1.2 g1.1 rfl rfl ?_
                  refine g_iload_n (q0 := 102) (j := 2) rfl dX11_likeness_101 rfl ?_
                  obtain ⟨n3, sn3, h⟩ := h
                  obtain ⟨g4, h⟩ := h
                  refine g_iald (q0 := 103) rfl dX11_likeness_102 sn3 g4.1 g4.2 ?_
                  refine g_aload (q0 := 105) (j := 7) rfl dX11_likeness_103 rfl ?_
                  refine g_getp (q0 := 108) (b := (v65 + 2)) rfl ff_X11_594 dX11_likeness_105 rfl hOK g2.2 g2.1 rfl rfl ?_
                  refine g_iload (q0 := 110) (j := 4) rfl dX11_likeness_108 rfl ?_
                  obtain ⟨n5, sn5, h⟩ := h
                  obtain ⟨g6, h⟩ := h
                  refine g_iald (q0 := 111) rfl dX11_likeness_110 sn5 g6.1 g6.2 ?_
                  obtain ⟨P111, e111, h⟩ := h
                  refine g_callVm (as := [_, _]) (rest := []) mt_X0_alike mi_X0_alike se_X0_alike ml_X11_597 dX11_likeness_111 (q0 := 114) rfl rfl (sh_440 hOK) rfl rfl e111 rfl ⟨by decide, by decide⟩ (Nat.le_of_ble_eq_true rfl) ⟨Nat.zero_le _, Nat.zero_le _⟩ (fun r111 M111 hP111 hw111 hMw111 => ?_)
                  obtain ⟨v111, hr111, hOK7, h⟩ := h r111 M111 hP111
                  subst hr111
                  refine g_fstore (q0 := 116) (j := 8) (lv2 := [_, _, _, _, _, _, _, _, _]) rfl dX11_likeness_114 (by decide) rfl rfl ?_
                  refine g_iload (q0 := 118) (j := 5) rfl dX11_likeness_116 rfl ?_
                  refine g_if_ne (q0 := 121) (tgt := 129) rfl dX11_likeness_118 (by decide) (fun h118 => ?_) (fun h118 => ?_)
                  · replace h := wI_neg h118 h
                    refine g_fload (q0 := 131) (j := 8) rfl dX11_likeness_129 rfl ?_
                    obtain ⟨v131, e131, h⟩ := h
                    refine g_callSp (as := [_]) (rest := []) mt_X11_hundredths ms_X11_hundredths ml_X11_588 dX11_likeness_131 (q0 := 134) rfl rfl e131 rfl ⟨by decide, by decide⟩ (Nat.le_of_ble_eq_true rfl) ⟨Nat.zero_le _, Nat.zero_le _⟩ (fun _ => ?_)
                    exact g_ireturn dX11_likeness_134 rfl ⟨Nat.zero_le _, Nat.zero_le _⟩ h
                  · replace h := wI_pos h118 h
                    refine g_fload (q0 := 123) (j := 8) rfl dX11_likeness_121 rfl ?_
                    obtain ⟨v123, e123, h⟩ := h
                    refine g_callSp (as := [_]) (rest := []) mt_X11_floatBits ms_X11_floatBits ml_X11_584 dX11_likeness_123 (q0 := 126) rfl rfl e123 rfl ⟨by decide, by decide⟩ (Nat.le_of_ble_eq_true rfl) ⟨Nat.zero_le _, Nat.zero_le _⟩ (fun _ => ?_)
                    refine g_goto (tgt := 134) dX11_likeness_126 (by decide) ?_
                    exact g_ireturn dX11_likeness_134 rfl ⟨Nat.zero_le _, Nat.zero_le _⟩ h
                · replace h := wI_neg (Int.not_lt.mpr h86) h
                  refine g_bipush (q0 := 91) rfl dX11_likeness_89 (k := ?_)
                  exact g_ireturn dX11_likeness_91 rfl ⟨Nat.zero_le _, Nat.zero_le _⟩ h
            · replace h := wI_pos h45 h
              refine g_iconst (q0 := 49) rfl dX11_likeness_48 (k := ?_)
              exact g_ireturn dX11_likeness_49 rfl ⟨Nat.zero_le _, Nat.zero_le _⟩ h
-- ==== X11_origin
theorem dX11_origin_0 : decode cX11_origin 0 = .ok (.aload_n 0, 1) := by decide +kernel
theorem dX11_origin_1 : decode cX11_origin 1 = .ok (.getfield 27, 3) := by decide +kernel
theorem dX11_origin_4 : decode cX11_origin 4 = .ok (.iload_n 1, 1) := by decide +kernel
theorem dX11_origin_5 : decode cX11_origin 5 = .ok (.invokevirtual 152, 3) := by decide +kernel
theorem dX11_origin_8 : decode cX11_origin 8 = .ok (.ifCond .eq 19, 3) := by decide +kernel
theorem dX11_origin_11 : decode cX11_origin 11 = .ok (.iload_n 2, 1) := by decide +kernel
theorem dX11_origin_12 : decode cX11_origin 12 = .ok (.invokestatic 591, 3) := by decide +kernel
theorem dX11_origin_15 : decode cX11_origin 15 = .ok (.ifCond .eq 12, 3) := by decide +kernel
theorem dX11_origin_18 : decode cX11_origin 18 = .ok (.iload_n 3, 1) := by decide +kernel
theorem dX11_origin_19 : decode cX11_origin 19 = .ok (.ifCond .lt 8, 3) := by decide +kernel
theorem dX11_origin_22 : decode cX11_origin 22 = .ok (.iload_n 3, 1) := by decide +kernel
theorem dX11_origin_23 : decode cX11_origin 23 = .ok (.iconst 4, 1) := by decide +kernel
theorem dX11_origin_24 : decode cX11_origin 24 = .ok (.if_icmp .le 5, 3) := by decide +kernel
theorem dX11_origin_27 : decode cX11_origin 27 = .ok (.iconst (-1), 1) := by decide +kernel
theorem dX11_origin_28 : decode cX11_origin 28 = .ok (.ireturn, 1) := by decide +kernel
theorem dX11_origin_29 : decode cX11_origin 29 = .ok (.iload_n 2, 1) := by decide +kernel
theorem dX11_origin_30 : decode cX11_origin 30 = .ok (.aload_n 0, 1) := by decide +kernel
theorem dX11_origin_31 : decode cX11_origin 31 = .ok (.getfield 27, 3) := by decide +kernel
theorem dX11_origin_34 : decode cX11_origin 34 = .ok (.iload_n 1, 1) := by decide +kernel
theorem dX11_origin_35 : decode cX11_origin 35 = .ok (.invokevirtual 155, 3) := by decide +kernel
theorem dX11_origin_38 : decode cX11_origin 38 = .ok (.getfield 159, 3) := by decide +kernel
theorem dX11_origin_41 : decode cX11_origin 41 = .ok (.if_icmp .lt 6, 3) := by decide +kernel
theorem dX11_origin_44 : decode cX11_origin 44 = .ok (.bipush (-4), 2) := by decide +kernel
theorem dX11_origin_46 : decode cX11_origin 46 = .ok (.ireturn, 1) := by decide +kernel
theorem dX11_origin_47 : decode cX11_origin 47 = .ok (.iload_n 1, 1) := by decide +kernel
theorem dX11_origin_48 : decode cX11_origin 48 = .ok (.istore 4, 2) := by decide +kernel
theorem dX11_origin_50 : decode cX11_origin 50 = .ok (.iload_n 2, 1) := by decide +kernel
theorem dX11_origin_51 : decode cX11_origin 51 = .ok (.istore 5, 2) := by decide +kernel
theorem dX11_origin_53 : decode cX11_origin 53 = .ok (.iconst 0, 1) := by decide +kernel
theorem dX11_origin_54 : decode cX11_origin 54 = .ok (.istore 6, 2) := by decide +kernel
theorem dX11_origin_56 : decode cX11_origin 56 = .ok (.iconst 0, 1) := by decide +kernel
theorem dX11_origin_57 : decode cX11_origin 57 = .ok (.istore 7, 2) := by decide +kernel
theorem dX11_origin_59 : decode cX11_origin 59 = .ok (.fconst 1, 1) := by decide +kernel
theorem dX11_origin_60 : decode cX11_origin 60 = .ok (.fstore 8, 2) := by decide +kernel
theorem dX11_origin_62 : decode cX11_origin 62 = .ok (.iconst 0, 1) := by decide +kernel
theorem dX11_origin_63 : decode cX11_origin 63 = .ok (.istore 9, 2) := by decide +kernel
theorem dX11_origin_65 : decode cX11_origin 65 = .ok (.iload 9, 2) := by decide +kernel
theorem dX11_origin_67 : decode cX11_origin 67 = .ok (.bipush 120, 2) := by decide +kernel
theorem dX11_origin_69 : decode cX11_origin 69 = .ok (.if_icmp .ge 216, 3) := by decide +kernel
theorem dX11_origin_72 : decode cX11_origin 72 = .ok (.aload_n 0, 1) := by decide +kernel
theorem dX11_origin_73 : decode cX11_origin 73 = .ok (.iload 4, 2) := by decide +kernel
theorem dX11_origin_75 : decode cX11_origin 75 = .ok (.aload_n 0, 1) := by decide +kernel
theorem dX11_origin_76 : decode cX11_origin 76 = .ok (.getfield 27, 3) := by decide +kernel
theorem dX11_origin_79 : decode cX11_origin 79 = .ok (.iload 4, 2) := by decide +kernel
theorem dX11_origin_81 : decode cX11_origin 81 = .ok (.invokevirtual 155, 3) := by decide +kernel
theorem dX11_origin_84 : decode cX11_origin 84 = .ok (.getfield 601, 3) := by decide +kernel
theorem dX11_origin_87 : decode cX11_origin 87 = .ok (.iload 5, 2) := by decide +kernel
theorem dX11_origin_89 : decode cX11_origin 89 = .ok (.iaload, 1) := by decide +kernel
theorem dX11_origin_90 : decode cX11_origin 90 = .ok (.invokevirtual 603, 3) := by decide +kernel
theorem dX11_origin_93 : decode cX11_origin 93 = .ok (.istore 10, 2) := by decide +kernel
theorem dX11_origin_95 : decode cX11_origin 95 = .ok (.iload 10, 2) := by decide +kernel
theorem dX11_origin_97 : decode cX11_origin 97 = .ok (.ifCond .ge 7, 3) := by decide +kernel
theorem dX11_origin_100 : decode cX11_origin 100 = .ok (.iconst 1, 1) := by decide +kernel
theorem dX11_origin_101 : decode cX11_origin 101 = .ok (.goto 4, 3) := by decide +kernel
theorem dX11_origin_104 : decode cX11_origin 104 = .ok (.iconst 0, 1) := by decide +kernel
theorem dX11_origin_105 : decode cX11_origin 105 = .ok (.istore 11, 2) := by decide +kernel
theorem dX11_origin_107 : decode cX11_origin 107 = .ok (.iload 11, 2) := by decide +kernel
theorem dX11_origin_109 : decode cX11_origin 109 = .ok (.ifCond .eq 14, 3) := by decide +kernel
theorem dX11_origin_112 : decode cX11_origin 112 = .ok (.aload_n 0, 1) := by decide +kernel
theorem dX11_origin_113 : decode cX11_origin 113 = .ok (.iload 4, 2) := by decide +kernel
theorem dX11_origin_115 : decode cX11_origin 115 = .ok (.iload 5, 2) := by decide +kernel
theorem dX11_origin_117 : decode cX11_origin 117 = .ok (.invokevirtual 606, 3) := by decide +kernel
theorem dX11_origin_120 : decode cX11_origin 120 = .ok (.goto 5, 3) := by decide +kernel
theorem dX11_origin_123 : decode cX11_origin 123 = .ok (.iload 10, 2) := by decide +kernel
theorem dX11_origin_125 : decode cX11_origin 125 = .ok (.istore 10, 2) := by decide +kernel
theorem dX11_origin_127 : decode cX11_origin 127 = .ok (.iload 10, 2) := by decide +kernel
theorem dX11_origin_129 : decode cX11_origin 129 = .ok (.ifCond .ge 6, 3) := by decide +kernel
theorem dX11_origin_132 : decode cX11_origin 132 = .ok (.goto 153, 3) := by decide +kernel
theorem dX11_origin_135 : decode cX11_origin 135 = .ok (.iload 11, 2) := by decide +kernel
theorem dX11_origin_137 : decode cX11_origin 137 = .ok (.ifCond .eq 15, 3) := by decide +kernel
theorem dX11_origin_140 : decode cX11_origin 140 = .ok (.aload_n 0, 1) := by decide +kernel
theorem dX11_origin_141 : decode cX11_origin 141 = .ok (.getfield 62, 3) := by decide +kernel
theorem dX11_origin_144 : decode cX11_origin 144 = .ok (.iload 5, 2) := by decide +kernel
theorem dX11_origin_146 : decode cX11_origin 146 = .ok (.invokevirtual 609, 3) := by decide +kernel
theorem dX11_origin_149 : decode cX11_origin 149 = .ok (.goto 30, 3) := by decide +kernel
theorem dX11_origin_152 : decode cX11_origin 152 = .ok (.aload_n 0, 1) := by decide +kernel
theorem dX11_origin_153 : decode cX11_origin 153 = .ok (.getfield 27, 3) := by decide +kernel
theorem dX11_origin_156 : decode cX11_origin 156 = .ok (.iload 10, 2) := by decide +kernel
theorem dX11_origin_158 : decode cX11_origin 158 = .ok (.invokevirtual 155, 3) := by decide +kernel
theorem dX11_origin_161 : decode cX11_origin 161 = .ok (.aload_n 0, 1) := by decide +kernel
theorem dX11_origin_162 : decode cX11_origin 162 = .ok (.getfield 27, 3) := by decide +kernel
theorem dX11_origin_165 : decode cX11_origin 165 = .ok (.iload 4, 2) := by decide +kernel
theorem dX11_origin_167 : decode cX11_origin 167 = .ok (.invokevirtual 155, 3) := by decide +kernel
theorem dX11_origin_170 : decode cX11_origin 170 = .ok (.getfield 601, 3) := by decide +kernel
theorem dX11_origin_173 : decode cX11_origin 173 = .ok (.iload 5, 2) := by decide +kernel
theorem dX11_origin_175 : decode cX11_origin 175 = .ok (.iaload, 1) := by decide +kernel
theorem dX11_origin_176 : decode cX11_origin 176 = .ok (.invokevirtual 347, 3) := by decide +kernel
theorem dX11_origin_179 : decode cX11_origin 179 = .ok (.istore 12, 2) := by decide +kernel
theorem dX11_origin_181 : decode cX11_origin 181 = .ok (.iload 12, 2) := by decide +kernel
theorem dX11_origin_183 : decode cX11_origin 183 = .ok (.ifCond .ge 6, 3) := by decide +kernel
theorem dX11_origin_186 : decode cX11_origin 186 = .ok (.goto 99, 3) := by decide +kernel
theorem dX11_origin_189 : decode cX11_origin 189 = .ok (.aload_n 0, 1) := by decide +kernel
theorem dX11_origin_190 : decode cX11_origin 190 = .ok (.getfield 27, 3) := by decide +kernel
theorem dX11_origin_193 : decode cX11_origin 193 = .ok (.iload 4, 2) := by decide +kernel
theorem dX11_origin_195 : decode cX11_origin 195 = .ok (.invokevirtual 155, 3) := by decide +kernel
theorem dX11_origin_198 : decode cX11_origin 198 = .ok (.getfield 594, 3) := by decide +kernel
theorem dX11_origin_201 : decode cX11_origin 201 = .ok (.iload 5, 2) := by decide +kernel
theorem dX11_origin_203 : decode cX11_origin 203 = .ok (.iaload, 1) := by decide +kernel
theorem dX11_origin_204 : decode cX11_origin 204 = .ok (.istore 13, 2) := by decide +kernel
theorem dX11_origin_206 : decode cX11_origin 206 = .ok (.aload_n 0, 1) := by decide +kernel
theorem dX11_origin_207 : decode cX11_origin 207 = .ok (.getfield 27, 3) := by decide +kernel
theorem dX11_origin_210 : decode cX11_origin 210 = .ok (.iload 10, 2) := by decide +kernel
theorem dX11_origin_212 : decode cX11_origin 212 = .ok (.invokevirtual 155, 3) := by decide +kernel
theorem dX11_origin_215 : decode cX11_origin 215 = .ok (.getfield 594, 3) := by decide +kernel
theorem dX11_origin_218 : decode cX11_origin 218 = .ok (.iload 12, 2) := by decide +kernel
theorem dX11_origin_220 : decode cX11_origin 220 = .ok (.iaload, 1) := by decide +kernel
theorem dX11_origin_221 : decode cX11_origin 221 = .ok (.istore 14, 2) := by decide +kernel
theorem dX11_origin_223 : decode cX11_origin 223 = .ok (.fload 8, 2) := by decide +kernel
theorem dX11_origin_225 : decode cX11_origin 225 = .ok (.aload_n 0, 1) := by decide +kernel
theorem dX11_origin_226 : decode cX11_origin 226 = .ok (.getfield 62, 3) := by decide +kernel
theorem dX11_origin_229 : decode cX11_origin 229 = .ok (.iload 14, 2) := by decide +kernel
theorem dX11_origin_231 : decode cX11_origin 231 = .ok (.iload 13, 2) := by decide +kernel
theorem dX11_origin_233 : decode cX11_origin 233 = .ok (.invokevirtual 597, 3) := by decide +kernel
theorem dX11_origin_236 : decode cX11_origin 236 = .ok (.fmul, 1) := by decide +kernel
theorem dX11_origin_237 : decode cX11_origin 237 = .ok (.fstore 8, 2) := by decide +kernel
theorem dX11_origin_239 : decode cX11_origin 239 = .ok (.iload 6, 2) := by decide +kernel
theorem dX11_origin_241 : decode cX11_origin 241 = .ok (.iload 14, 2) := by decide +kernel
theorem dX11_origin_243 : decode cX11_origin 243 = .ok (.iload 13, 2) := by decide +kernel
theorem dX11_origin_245 : decode cX11_origin 245 = .ok (.if_icmp .ne 7, 3) := by decide +kernel
theorem dX11_origin_248 : decode cX11_origin 248 = .ok (.iconst 0, 1) := by decide +kernel
theorem dX11_origin_249 : decode cX11_origin 249 = .ok (.goto 4, 3) := by decide +kernel
theorem dX11_origin_252 : decode cX11_origin 252 = .ok (.iconst 1, 1) := by decide +kernel
theorem dX11_origin_253 : decode cX11_origin 253 = .ok (.iadd, 1) := by decide +kernel
theorem dX11_origin_254 : decode cX11_origin 254 = .ok (.istore 6, 2) := by decide +kernel
theorem dX11_origin_256 : decode cX11_origin 256 = .ok (.iload 7, 2) := by decide +kernel
theorem dX11_origin_258 : decode cX11_origin 258 = .ok (.iload 11, 2) := by decide +kernel
theorem dX11_origin_260 : decode cX11_origin 260 = .ok (.ifCond .eq 7, 3) := by decide +kernel
theorem dX11_origin_263 : decode cX11_origin 263 = .ok (.iconst 1, 1) := by decide +kernel
theorem dX11_origin_264 : decode cX11_origin 264 = .ok (.goto 4, 3) := by decide +kernel
theorem dX11_origin_267 : decode cX11_origin 267 = .ok (.iconst 0, 1) := by decide +kernel
theorem dX11_origin_268 : decode cX11_origin 268 = .ok (.iadd, 1) := by decide +kernel
theorem dX11_origin_269 : decode cX11_origin 269 = .ok (.istore 7, 2) := by decide +kernel
theorem dX11_origin_271 : decode cX11_origin 271 = .ok (.iload 10, 2) := by decide +kernel
theorem dX11_origin_273 : decode cX11_origin 273 = .ok (.istore 4, 2) := by decide +kernel
theorem dX11_origin_275 : decode cX11_origin 275 = .ok (.iload 12, 2) := by decide +kernel
theorem dX11_origin_277 : decode cX11_origin 277 = .ok (.istore 5, 2) := by decide +kernel
theorem dX11_origin_279 : decode cX11_origin 279 = .ok (.iinc 9 1, 3) := by decide +kernel
theorem dX11_origin_282 : decode cX11_origin 282 = .ok (.goto (-217), 3) := by decide +kernel
theorem dX11_origin_285 : decode cX11_origin 285 = .ok (.iload_n 3, 1) := by decide +kernel
theorem dX11_origin_286 : decode cX11_origin 286 = .ok (.tableswitch 42 0 3 #[30, 33, 36, 39], 30) := by decide +kernel
theorem dX11_origin_316 : decode cX11_origin 316 = .ok (.iload 4, 2) := by decide +kernel
theorem dX11_origin_318 : decode cX11_origin 318 = .ok (.ireturn, 1) := by decide +kernel
theorem dX11_origin_319 : decode cX11_origin 319 = .ok (.iload 5, 2) := by decide +kernel
theorem dX11_origin_321 : decode cX11_origin 321 = .ok (.ireturn, 1) := by decide +kernel
theorem dX11_origin_322 : decode cX11_origin 322 = .ok (.iload 6, 2) := by decide +kernel
theorem dX11_origin_324 : decode cX11_origin 324 = .ok (.ireturn, 1) := by decide +kernel
theorem dX11_origin_325 : decode cX11_origin 325 = .ok (.iload 7, 2) := by decide +kernel
theorem dX11_origin_327 : decode cX11_origin 327 = .ok (.ireturn, 1) := by decide +kernel
theorem dX11_origin_328 : decode cX11_origin 328 = .ok (.fload 8, 2) := by decide +kernel
theorem dX11_origin_330 : decode cX11_origin 330 = .ok (.invokestatic 584, 3) := by decide +kernel
theorem dX11_origin_333 : decode cX11_origin 333 = .ok (.ireturn, 1) := by decide +kernel
def P_X11_origin_65 (sh : gS) (Q : Option gV → gS → gM → Prop) (x1 x2 x3 x4 x5 x6 x7 x8 x9 : Int) (M : gM) : Prop := gA (gr 5 119) yX11_origin cX11_origin 15 (some (.int)) Q (0, 0) 65 [(4, 0), (0, x1), (0, x2), (0, x3), (0, x4), (0, x5), (0, x6), (0, x7), (2, x8), (0, x9), (9, 0), (9, 0), (9, 0), (9, 0), (9, 0)] [] sh M
def P_X11_origin_125 (sh : gS) (Q : Option gV → gS → gM → Prop) (x1 x2 x3 x4 x5 x6 x7 x8 x9 x10 x11 s0 : Int) (M : gM) : Prop := gA (gr 5 119) yX11_origin cX11_origin 15 (some (.int)) Q (0, 0) 125 [(4, 0), (0, x1), (0, x2), (0, x3), (0, x4), (0, x5), (0, x6), (0, x7), (2, x8), (0, x9), (0, x10), (0, x11), (9, 0), (9, 0), (9, 0)] [(0, s0)] sh M
def P_X11_origin_179 (sh : gS) (Q : Option gV → gS → gM → Prop) (x1 x2 x3 x4 x5 x6 x7 x8 x9 x10 x11 s0 : Int) (M : gM) : Prop := gA (gr 5 119) yX11_origin cX11_origin 15 (some (.int)) Q (0, 0) 179 [(4, 0), (0, x1), (0, x2), (0, x3), (0, x4), (0, x5), (0, x6), (0, x7), (2, x8), (0, x9), (0, x10), (0, x11), (9, 0), (9, 0), (9, 0)] [(0, s0)] sh M
def P_X11_origin_253 (sh : gS) (Q : Option gV → gS → gM → Prop) (x1 x2 x3 x4 x5 x6 x7 x8 x9 x10 x11 x12 x13 x14 s0 s1 : Int) (M : gM) : Prop := gA (gr 5 119) yX11_origin cX11_origin 15 (some (.int)) Q (0, 0) 253 [(4, 0), (0, x1), (0, x2), (0, x3), (0, x4), (0, x5), (0, x6), (0, x7), (2, x8), (0, x9), (0, x10), (0, x11), (0, x12), (0, x13), (0, x14)] [(0, s1), (0, s0)] sh M
theorem w_X11_origin_65 {sh : gS} {Q : Option gV → gS → gM → Prop} {x1 x2 x3 x4 x5 x6 x7 x8 x9 : Int} {M : gM} (hOK : gOK sh M) (h : (if x9 < 120 then
    (∃ v81 : Int, gC (gr 0 0) yX1_tree cX1_tree 2 (some (.object "CarriedHistory$Tree")) [(4, 4), (0, x4)] sh M (gPp sh M (4, v81)) ∧
      ((gsh sh v81 = some (0, 11) ∧ v81 < 758) ∧
        (∃ n2 : Nat, gsh sh (v81 + 1) = some (1, n2) ∧
          ((0 ≤ x5 ∧ x5 < (n2 : Int)) ∧
            (∃ v90 : Int, gC (gr 1 22) yX11_parentWithFile cX11_parentWithFile 5 (some (.int)) [(4, 0), (0, x4), (0, (M (v81 + 1) x5))] sh M (gPp sh M (0, v90)) ∧
              (if v90 < 0 then
                (∃ P117 : Option gV → gM → Prop, gC (gr 4 95) yX11_parentRenamed cX11_parentRenamed 5 (some (.int)) [(4, 0), (0, x4), (0, x5)] sh M (gPm sh P117) ∧ ∀ (r117 : Option gV) (M117 : gM), P117 r117 M117 → ∃ v117 : Int, r117 = some (0, v117) ∧ gOK sh M117 ∧
                  (P_X11_origin_125 sh Q x1 x2 x3 x4 x5 x6 x7 x8 x9 v90 1 v117 M117))
              else
                (P_X11_origin_125 sh Q x1 x2 x3 x4 x5 x6 x7 x8 x9 v90 0 v90 M)))))))
  else
    (if x3 = 0 then
      (Q (some (0, x4)) sh M)
    else
      (if x3 = 1 then
        (Q (some (0, x5)) sh M)
      else
        (if x3 = 2 then
          (Q (some (0, x6)) sh M)
        else
          (if x3 = 3 then
            (Q (some (0, x7)) sh M)
          else
            (∃ v330 : Int, gC (gr 0 0) yX11_floatBits cX11_floatBits 5 (some (.int)) [(2, x8)] sh M (gPp sh M (0, v330)) ∧
              (Q (some (0, v330)) sh M)))))))) : P_X11_origin_65 sh Q x1 x2 x3 x4 x5 x6 x7 x8 x9 M := by
  unfold P_X11_origin_65
  refine g_iload (q0 := 67) (j := 9) rfl dX11_origin_65 rfl ?_
  refine g_bipush (q0 := 69) rfl dX11_origin_67 (k := ?_)
  refine g_icmp_ge (q0 := 72) (tgt := 285) rfl dX11_origin_69 (by decide) (fun h69 => ?_) (fun h69 => ?_)
  · replace h := wI_neg (Int.not_lt.mpr h69) h
    refine g_iload_n (q0 := 286) (j := 3) rfl dX11_origin_285 rfl ?_
    by_cases hs0 : x3 = 0
    · replace h := wI_pos hs0 h
      refine g_tabIn (off := 30) (tgt := 316) dX11_origin_286 (by omega) (by omega) (by rw [hs0]; rfl) (by decide) ?_
      refine g_iload (q0 := 318) (j := 4) rfl dX11_origin_316 rfl ?_
      exact g_ireturn dX11_origin_318 rfl ⟨Nat.zero_le _, Nat.zero_le _⟩ h
    · replace h := wI_neg hs0 h
      by_cases hs1 : x3 = 1
      · replace h := wI_pos hs1 h
        refine g_tabIn (off := 33) (tgt := 319) dX11_origin_286 (by omega) (by omega) (by rw [hs1]; rfl) (by decide) ?_
        refine g_iload (q0 := 321) (j := 5) rfl dX11_origin_319 rfl ?_
        exact g_ireturn dX11_origin_321 rfl ⟨Nat.zero_le _, Nat.zero_le _⟩ h
      · replace h := wI_neg hs1 h
        by_cases hs2 : x3 = 2
        · replace h := wI_pos hs2 h
          refine g_tabIn (off := 36) (tgt := 322) dX11_origin_286 (by omega) (by omega) (by rw [hs2]; rfl) (by decide) ?_
          refine g_iload (q0 := 324) (j := 6) rfl dX11_origin_322 rfl ?_
          exact g_ireturn dX11_origin_324 rfl ⟨Nat.zero_le _, Nat.zero_le _⟩ h
        · replace h := wI_neg hs2 h
          by_cases hs3 : x3 = 3
          · replace h := wI_pos hs3 h
            refine g_tabIn (off := 39) (tgt := 325) dX11_origin_286 (by omega) (by omega) (by rw [hs3]; rfl) (by decide) ?_
            refine g_iload (q0 := 327) (j := 7) rfl dX11_origin_325 rfl ?_
            exact g_ireturn dX11_origin_327 rfl ⟨Nat.zero_le _, Nat.zero_le _⟩ h
          · replace h := wI_neg hs3 h
            refine g_tabOut (tgt := 328) dX11_origin_286 (by omega) (by decide) ?_
            refine g_fload (q0 := 330) (j := 8) rfl dX11_origin_328 rfl ?_
            obtain ⟨v330, e330, h⟩ := h
            refine g_callSp (as := [_]) (rest := []) mt_X11_floatBits ms_X11_floatBits ml_X11_584 dX11_origin_330 (q0 := 333) rfl rfl e330 rfl ⟨by decide, by decide⟩ (Nat.le_of_ble_eq_true rfl) ⟨Nat.zero_le _, Nat.zero_le _⟩ (fun _ => ?_)
            exact g_ireturn dX11_origin_333 rfl ⟨Nat.zero_le _, Nat.zero_le _⟩ h
  · replace h := wI_pos h69 h
    refine g_aload_n (q0 := 73) (j := 0) rfl dX11_origin_72 rfl ?_
    refine g_iload (q0 := 75) (j := 4) rfl dX11_origin_73 rfl ?_
    refine g_aload_n (q0 := 76) (j := 0) rfl dX11_origin_75 rfl ?_
    refine g_getp (q0 := 79) (b := 4) rfl ff_X11_27 dX11_origin_76 rfl hOK (by decide) (sh_0 hOK) rfl (by decide) ?_
    refine g_iload (q0 := 81) (j := 4) rfl dX11_origin_79 rfl ?_
    obtain ⟨v81, e81, h⟩ := h
    refine g_callVp (as := [_]) (rest := [_, _]) mt_X1_tree mi_X1_tree se_X1_tree ml_X11_155 dX11_origin_81 (q0 := 84) rfl rfl (sh_4 hOK) rfl rfl e81 rfl ⟨by decide, by decide⟩ (Nat.le_of_ble_eq_true rfl) ⟨Nat.zero_le _, Nat.zero_le _⟩ (fun _ => ?_)
    obtain ⟨g1, h⟩ := h
    refine g_getp (q0 := 87) (b := (v81 + 1)) rfl ff_X11_601 dX11_origin_84 rfl hOK g1.2 g1.1 rfl rfl ?_
    refine g_iload (q0 := 89) (j := 5) rfl dX11_origin_87 rfl ?_
    obtain ⟨n2, sn2, h⟩ := h
    obtain ⟨g3, h⟩ := h
    refine g_iald (q0 := 90) rfl dX11_origin_89 sn2 g3.1 g3.2 ?_
    obtain ⟨v90, e90, h⟩ := h
    refine g_callVp (as := [_, _]) (rest := []) mt_X11_parentWithFile mi_X11_parentWithFile se_X11_parentWithFile ml_X11_603 dX11_origin_90 (q0 := 93) rfl rfl (sh_0 hOK) rfl rfl e90 rfl ⟨by decide, by decide⟩ (Nat.le_of_ble_eq_true rfl) ⟨Nat.zero_le _, Nat.zero_le _⟩ (fun _ => ?_)
    refine g_istore (q0 := 95) (j := 10) (lv2 := [_, _, _, _, _, _, _, _, _, _, _, _, _, _, _]) rfl dX11_origin_93 (by decide) rfl rfl ?_
    refine g_iload (q0 := 97) (j := 10) rfl dX11_origin_95 rfl ?_
    refine g_if_ge (q0 := 100) (tgt := 104) rfl dX11_origin_97 (by decide) (fun h97 => ?_) (fun h97 => ?_)
    · replace h := wI_neg (Int.not_lt.mpr h97) h
      refine g_iconst (q0 := 105) rfl dX11_origin_104 (k := ?_)
      refine g_istore (q0 := 107) (j := 11) (lv2 := [_, _, _, _, _, _, _, _, _, _, _, _, _, _, _]) rfl dX11_origin_105 (by decide) rfl rfl ?_
      refine g_iload (q0 := 109) (j := 11) rfl dX11_origin_107 rfl ?_
      refine g_if_eq (q0 := 112) (tgt := 123) rfl dX11_origin_109 (by decide) (fun h109 => ?_) (fun h109 => ?_)
      · refine g_iload (q0 := 125) (j := 10) rfl dX11_origin_123 rfl ?_
        exact h
      · exact absurd h109 (by decide)
    · replace h := wI_pos h97 h
      refine g_iconst (q0 := 101) rfl dX11_origin_100 (k := ?_)
      refine g_goto (tgt := 105) dX11_origin_101 (by decide) ?_
      refine g_istore (q0 := 107) (j := 11) (lv2 := [_, _, _, _, _, _, _, _, _, _, _, _, _, _, _]) rfl dX11_origin_105 (by decide) rfl rfl ?_
      refine g_iload (q0 := 109) (j := 11) rfl dX11_origin_107 rfl ?_
      refine g_if_eq (q0 := 112) (tgt := 123) rfl dX11_origin_109 (by decide) (fun h109 => ?_) (fun h109 => ?_)
      · exact absurd h109 (by decide)
      · refine g_aload_n (q0 := 113) (j := 0) rfl dX11_origin_112 rfl ?_
        refine g_iload (q0 := 115) (j := 4) rfl dX11_origin_113 rfl ?_
        refine g_iload (q0 := 117) (j := 5) rfl dX11_origin_115 rfl ?_
        obtain ⟨P117, e117, h⟩ := h
        refine g_callVm (as := [_, _]) (rest := []) mt_X11_parentRenamed mi_X11_parentRenamed se_X11_parentRenamed ml_X11_606 dX11_origin_117 (q0 := 120) rfl rfl (sh_0 hOK) rfl rfl e117 rfl ⟨by decide, by decide⟩ (Nat.le_of_ble_eq_true rfl) ⟨Nat.zero_le _, Nat.zero_le _⟩ (fun r117 M117 hP117 hw117 hMw117 => ?_)
        obtain ⟨v117, hr117, hOK4, h⟩ := h r117 M117 hP117
        subst hr117
        refine g_goto (tgt := 125) dX11_origin_120 (by decide) ?_
        exact h
theorem w_X11_origin_125 {sh : gS} {Q : Option gV → gS → gM → Prop} {x1 x2 x3 x4 x5 x6 x7 x8 x9 x10 x11 s0 : Int} {M : gM} (hOK : gOK sh M) (h : (if s0 < 0 then
    (if x3 = 0 then
      (Q (some (0, x4)) sh M)
    else
      (if x3 = 1 then
        (Q (some (0, x5)) sh M)
      else
        (if x3 = 2 then
          (Q (some (0, x6)) sh M)
        else
          (if x3 = 3 then
            (Q (some (0, x7)) sh M)
          else
            (∃ v330 : Int, gC (gr 0 0) yX11_floatBits cX11_floatBits 5 (some (.int)) [(2, x8)] sh M (gPp sh M (0, v330)) ∧
              (Q (some (0, v330)) sh M))))))
  else
    (if x11 = 0 then
      (∃ v158 : Int, gC (gr 0 0) yX1_tree cX1_tree 2 (some (.object "CarriedHistory$Tree")) [(4, 4), (0, s0)] sh M (gPp sh M (4, v158)) ∧
        (∃ v167 : Int, gC (gr 0 0) yX1_tree cX1_tree 2 (some (.object "CarriedHistory$Tree")) [(4, 4), (0, x4)] sh M (gPp sh M (4, v167)) ∧
          ((gsh sh v167 = some (0, 11) ∧ v167 < 758) ∧
            (∃ n6 : Nat, gsh sh (v167 + 1) = some (1, n6) ∧
              ((0 ≤ x5 ∧ x5 < (n6 : Int)) ∧
                ((gsh sh v158 = some (0, 11) ∧ v158 < 758) ∧
                  (∃ v176 : Int, gC (gr 0 0) yX10_find cX10_find 3 (some (.int)) [(4, v158), (0, (M (v167 + 1) x5))] sh M (gPp sh M (0, v176)) ∧
                    (P_X11_origin_179 sh Q x1 x2 x3 x4 x5 x6 x7 x8 x9 s0 x11 v176 M))))))))
    else
      (∃ v146 : Int, gC (gr 0 0) yX0_pairedWith cX0_pairedWith 3 (some (.int)) [(4, 440), (0, x5)] sh M (gPp sh M (0, v146)) ∧
        (P_X11_origin_179 sh Q x1 x2 x3 x4 x5 x6 x7 x8 x9 s0 x11 v146 M))))) : P_X11_origin_125 sh Q x1 x2 x3 x4 x5 x6 x7 x8 x9 x10 x11 s0 M := by
  unfold P_X11_origin_125
  refine g_istore (q0 := 127) (j := 10) (lv2 := [_, _, _, _, _, _, _, _, _, _, _, _, _, _, _]) rfl dX11_origin_125 (by decide) rfl rfl ?_
  refine g_iload (q0 := 129) (j := 10) rfl dX11_origin_127 rfl ?_
  refine g_if_ge (q0 := 132) (tgt := 135) rfl dX11_origin_129 (by decide) (fun h129 => ?_) (fun h129 => ?_)
  · replace h := wI_neg (Int.not_lt.mpr h129) h
    refine g_iload (q0 := 137) (j := 11) rfl dX11_origin_135 rfl ?_
    refine g_if_eq (q0 := 140) (tgt := 152) rfl dX11_origin_137 (by decide) (fun h137 => ?_) (fun h137 => ?_)
    · replace h := wI_pos h137 h
      refine g_aload_n (q0 := 153) (j := 0) rfl dX11_origin_152 rfl ?_
      refine g_getp (q0 := 156) (b := 4) rfl ff_X11_27 dX11_origin_153 rfl hOK (by decide) (sh_0 hOK) rfl (by decide) ?_
      refine g_iload (q0 := 158) (j := 10) rfl dX11_origin_156 rfl ?_
      obtain ⟨v158, e158, h⟩ := h
      refine g_callVp (as := [_]) (rest := []) mt_X1_tree mi_X1_tree se_X1_tree ml_X11_155 dX11_origin_158 (q0 := 161) rfl rfl (sh_4 hOK) rfl rfl e158 rfl ⟨by decide, by decide⟩ (Nat.le_of_ble_eq_true rfl) ⟨Nat.zero_le _, Nat.zero_le _⟩ (fun _ => ?_)
      refine g_aload_n (q0 := 162) (j := 0) rfl dX11_origin_161 rfl ?_
      refine g_getp (q0 := 165) (b := 4) rfl ff_X11_27 dX11_origin_162 rfl hOK (by decide) (sh_0 hOK) rfl (by decide) ?_
      refine g_iload (q0 := 167) (j := 4) rfl dX11_origin_165 rfl ?_
      obtain ⟨v167, e167, h⟩ := h
      refine g_callVp (as := [_]) (rest := [_]) mt_X1_tree mi_X1_tree se_X1_tree ml_X11_155 dX11_origin_167 (q0 := 170) rfl rfl (sh_4 hOK) rfl rfl e167 rfl ⟨by decide, by decide⟩ (Nat.le_of_ble_eq_true rfl) ⟨Nat.zero_le _, Nat.zero_le _⟩ (fun _ => ?_)
      obtain ⟨g5, h⟩ := h
      refine g_getp (q0 := 173) (b := (v167 + 1)) rfl ff_X11_601 dX11_origin_170 rfl hOK g5.2 g5.1 rfl rfl ?_
      refine g_iload (q0 := 175) (j := 5) rfl dX11_origin_173 rfl ?_
      obtain ⟨n6, sn6, h⟩ := h
      obtain ⟨g7, h⟩ := h
      refine g_iald (q0 := 176) rfl dX11_origin_175 sn6 g7.1 g7.2 ?_
      obtain ⟨g8, h⟩ := h
      obtain ⟨v176, e176, h⟩ := h
      refine g_callVp (as := [_]) (rest := []) mt_X10_find mi_X10_find se_X10_find ml_X11_347 dX11_origin_176 (q0 := 179) rfl rfl g8.1 rfl rfl e176 rfl ⟨by decide, by decide⟩ (Nat.le_of_ble_eq_true rfl) ⟨Nat.zero_le _, Nat.zero_le _⟩ (fun _ => ?_)
      exact h
    · replace h := wI_neg h137 h
      refine g_aload_n (q0 := 141) (j := 0) rfl dX11_origin_140 rfl ?_
      refine g_getp (q0 := 144) (b := 440) rfl ff_X11_62 dX11_origin_141 rfl hOK (by decide) (sh_0 hOK) rfl (by decide) ?_
      refine g_iload (q0 := 146) (j := 5) rfl dX11_origin_144 rfl ?_
      obtain ⟨v146, e146, h⟩ := h
      refine g_callVp (as := [_]) (rest := []) mt_X0_pairedWith mi_X0_pairedWith se_X0_pairedWith ml_X11_609 dX11_origin_146 (q0 := 149) rfl rfl (sh_440 hOK) rfl rfl e146 rfl ⟨by decide, by decide⟩ (Nat.le_of_ble_eq_true rfl) ⟨Nat.zero_le _, Nat.zero_le _⟩ (fun _ => ?_)
      refine g_goto (tgt := 179) dX11_origin_149 (by decide) ?_
      exact h
  · replace h := wI_pos h129 h
    refine g_goto (tgt := 285) dX11_origin_132 (by decide) ?_
    refine g_iload_n (q0 := 286) (j := 3) rfl dX11_origin_285 rfl ?_
    by_cases hs0 : x3 = 0
    · replace h := wI_pos hs0 h
      refine g_tabIn (off := 30) (tgt := 316) dX11_origin_286 (by omega) (by omega) (by rw [hs0]; rfl) (by decide) ?_
      refine g_iload (q0 := 318) (j := 4) rfl dX11_origin_316 rfl ?_
      exact g_ireturn dX11_origin_318 rfl ⟨Nat.zero_le _, Nat.zero_le _⟩ h
    · replace h := wI_neg hs0 h
      by_cases hs1 : x3 = 1
      · replace h := wI_pos hs1 h
        refine g_tabIn (off := 33) (tgt := 319) dX11_origin_286 (by omega) (by omega) (by rw [hs1]; rfl) (by decide) ?_
        refine g_iload (q0 := 321) (j := 5) rfl dX11_origin_319 rfl ?_
        exact g_ireturn dX11_origin_321 rfl ⟨Nat.zero_le _, Nat.zero_le _⟩ h
      · replace h := wI_neg hs1 h
        by_cases hs2 : x3 = 2
        · replace h := wI_pos hs2 h
          refine g_tabIn (off := 36) (tgt := 322) dX11_origin_286 (by omega) (by omega) (by rw [hs2]; rfl) (by decide) ?_
          refine g_iload (q0 := 324) (j := 6) rfl dX11_origin_322 rfl ?_
          exact g_ireturn dX11_origin_324 rfl ⟨Nat.zero_le _, Nat.zero_le _⟩ h
        · replace h := wI_neg hs2 h
          by_cases hs3 : x3 = 3
          · replace h := wI_pos hs3 h
            refine g_tabIn (off := 39) (tgt := 325) dX11_origin_286 (by omega) (by omega) (by rw [hs3]; rfl) (by decide) ?_
            refine g_iload (q0 := 327) (j := 7) rfl dX11_origin_325 rfl ?_
            exact g_ireturn dX11_origin_327 rfl ⟨Nat.zero_le _, Nat.zero_le _⟩ h
          · replace h := wI_neg hs3 h
            refine g_tabOut (tgt := 328) dX11_origin_286 (by omega) (by decide) ?_
            refine g_fload (q0 := 330) (j := 8) rfl dX11_origin_328 rfl ?_
            obtain ⟨v330, e330, h⟩ := h
            refine g_callSp (as := [_]) (rest := []) mt_X11_floatBits ms_X11_floatBits ml_X11_584 dX11_origin_330 (q0 := 333) rfl rfl e330 rfl ⟨by decide, by decide⟩ (Nat.le_of_ble_eq_true rfl) ⟨Nat.zero_le _, Nat.zero_le _⟩ (fun _ => ?_)
            exact g_ireturn dX11_origin_333 rfl ⟨Nat.zero_le _, Nat.zero_le _⟩ h
theorem w_X11_origin_179 {sh : gS} {Q : Option gV → gS → gM → Prop} {x1 x2 x3 x4 x5 x6 x7 x8 x9 x10 x11 s0 : Int} {M : gM} (hOK : gOK sh M) (h : (if s0 < 0 then
    (if x3 = 0 then
      (Q (some (0, x4)) sh M)
    else
      (if x3 = 1 then
        (Q (some (0, x5)) sh M)
      else
        (if x3 = 2 then
          (Q (some (0, x6)) sh M)
        else
          (if x3 = 3 then
            (Q (some (0, x7)) sh M)
          else
            (∃ v330 : Int, gC (gr 0 0) yX11_floatBits cX11_floatBits 5 (some (.int)) [(2, x8)] sh M (gPp sh M (0, v330)) ∧
              (Q (some (0, v330)) sh M))))))
  else
    (∃ v195 : Int, gC (gr 0 0) yX1_tree cX1_tree 2 (some (.object "CarriedHistory$Tree")) [(4, 4), (0, x4)] sh M (gPp sh M (4, v195)) ∧
      ((gsh sh v195 = some (0, 11) ∧ v195 < 758) ∧
        (∃ n10 : Nat, gsh sh (v195 + 2) = some (1, n10) ∧
          ((0 ≤ x5 ∧ x5 < (n10 : Int)) ∧
            (∃ v212 : Int, gC (gr 0 0) yX1_tree cX1_tree 2 (some (.object "CarriedHistory$Tree")) [(4, 4), (0, x10)] sh M (gPp sh M (4, v212)) ∧
              ((gsh sh v212 = some (0, 11) ∧ v212 < 758) ∧
                (∃ n13 : Nat, gsh sh (v212 + 2) = some (1, n13) ∧
                  ((0 ≤ s0 ∧ s0 < (n13 : Int)) ∧
                    (∃ P233 : Option gV → gM → Prop, gC (gr 2 49) yX0_alike cX0_alike 5 (some (.float)) [(4, 440), (0, (M (v212 + 2) s0)), (0, (M (v195 + 2) x5))] sh M (gPm sh P233) ∧ ∀ (r233 : Option gV) (M233 : gM), P233 r233 M233 → ∃ v233 : Int, r233 = some (2, v233) ∧ gOK sh M233 ∧
                      ((vf_n32 (FP.fmul (gu x8) (gu v233))) ∧
                        (if (M (v212 + 2) s0) = (M (v195 + 2) x5) then
                          (P_X11_origin_253 sh Q x1 x2 x3 x4 x5 x6 x7 (gfl (FP.fmul (gu x8) (gu v233))) x9 x10 x11 s0 (M (v195 + 2) x5) (M (v212 + 2) s0) x6 0 M233)
                        else
                          (P_X11_origin_253 sh Q x1 x2 x3 x4 x5 x6 x7 (gfl (FP.fmul (gu x8) (gu v233))) x9 x10 x11 s0 (M (v195 + 2) x5) (M (v212 + 2) s0) x6 1 M233)))))))))))))) : P_X11_origin_179 sh Q x1 x2 x3 x4 x5 x6 x7 x8 x9 x10 x11 s0 M := by
  unfold P_X11_origin_179
  refine g_istore (q0 := 181) (j := 12) (lv2 := [_, _, _, _, _, _, _, _, _, _, _, _, _, _, _]) rfl dX11_origin_179 (by decide) rfl rfl ?_
  refine g_iload (q0 := 183) (j := 12) rfl dX11_origin_181 rfl ?_
  refine g_if_ge (q0 := 186) (tgt := 189) rfl dX11_origin_183 (by decide) (fun h183 => ?_) (fun h183 => ?_)
  · replace h := wI_neg (Int.not_lt.mpr h183) h
    refine g_aload_n (q0 := 190) (j := 0) rfl dX11_origin_189 rfl ?_
    refine g_getp (q0 := 193) (b := 4) rfl ff_X11_27 dX11_origin_190 rfl hOK (by decide) (sh_0 hOK) rfl (by decide) ?_
    refine g_iload (q0 := 195) (j := 4) rfl dX11_origin_193 rfl ?_
    obtain ⟨v195, e195, h⟩ := h
    refine g_callVp (as := [_]) (rest := []) mt_X1_tree mi_X1_tree se_X1_tree ml_X11_155 dX11_origin_195 (q0 := 198) rfl rfl (sh_4 hOK) rfl rfl e195 rfl ⟨by decide, by decide⟩ (Nat.le_of_ble_eq_true rfl) ⟨Nat.zero_le _, Nat.zero_le _⟩ (fun _ => ?_)
    obtain ⟨g9, h⟩ := h
    refine g_getp (q0 := 201) (b := (v195 + 2)) rfl ff_X11_594 dX11_origin_198 rfl hOK g9.2 g9.1 rfl rfl ?_
    refine g_iload (q0 := 203) (j := 5) rfl dX11_origin_201 rfl ?_
    obtain ⟨n10, sn10, h⟩ := h
    obtain ⟨g11, h⟩ := h
    refine g_iald (q0 := 204) rfl dX11_origin_203 sn10 g11.1 g11.2 ?_
    refine g_istore (q0 := 206) (j := 13) (lv2 := [_, _, _, _, _, _, _, _, _, _, _, _, _, _, _]) rfl dX11_origin_204 (by decide) rfl rfl ?_
    refine g_aload_n (q0 := 207) (j := 0) rfl dX11_origin_206 rfl ?_
    refine g_getp (q0 := 210) (b := 4) rfl ff_X11_27 dX11_origin_207 rfl hOK (by decide) (sh_0 hOK) rfl (by decide) ?_
    refine g_iload (q0 := 212) (j := 10) rfl dX11_origin_210 rfl ?_
    obtain ⟨v212, e212, h⟩ := h
    refine g_callVp (as := [_]) (rest := []) mt_X1_tree mi_X1_tree se_X1_tree ml_X11_155 dX11_origin_212 (q0 := 215) rfl rfl (sh_4 hOK) rfl rfl e212 rfl ⟨by decide, by decide⟩ (Nat.le_of_ble_eq_true rfl) ⟨Nat.zero_le _, Nat.zero_le _⟩ (fun _ => ?_)
    obtain ⟨g12, h⟩ := h
    refine g_getp (q0 := 218) (b := (v212 + 2)) rfl ff_X11_594 dX11_origin_215 rfl hOK g12.2 g12.1 rfl rfl ?_
    refine g_iload (q0 := 220) (j := 12) rfl dX11_origin_218 rfl ?_
    obtain ⟨n13, sn13, h⟩ := h
    obtain ⟨g14, h⟩ := h
    refine g_iald (q0 := 221) rfl dX11_origin_220 sn13 g14.1 g14.2 ?_
    refine g_istore (q0 := 223) (j := 14) (lv2 := [_, _, _, _, _, _, _, _, _, _, _, _, _, _, _]) rfl dX11_origin_221 (by decide) rfl rfl ?_
    refine g_fload (q0 := 225) (j := 8) rfl dX11_origin_223 rfl ?_
    refine g_aload_n (q0 := 226) (j := 0) rfl dX11_origin_225 rfl ?_
    refine g_getp (q0 := 229) (b := 440) rfl ff_X11_62 dX11_origin_226 rfl hOK (by decide) (sh_0 hOK) rfl (by decide) ?_
    refine g_iload (q0 := 231) (j := 14) rfl dX11_origin_229 rfl ?_
    refine g_iload (q0 := 233) (j := 13) rfl dX11_origin_231 rfl ?_
    obtain ⟨P233, e233, h⟩ := h
    refine g_callVm (as := [_, _]) (rest := [_]) mt_X0_alike mi_X0_alike se_X0_alike ml_X11_597 dX11_origin_233 (q0 := 236) rfl rfl (sh_440 hOK) rfl rfl e233 rfl ⟨by decide, by decide⟩ (Nat.le_of_ble_eq_true rfl) ⟨Nat.zero_le _, Nat.zero_le _⟩ (fun r233 M233 hP233 hw233 hMw233 => ?_)
    obtain ⟨v233, hr233, hOK15, h⟩ := h r233 M233 hP233
    subst hr233
    obtain ⟨g16, h⟩ := h
    refine g_fmul (q0 := 237) rfl dX11_origin_236 g16 ?_
    refine g_fstore (q0 := 239) (j := 8) (lv2 := [_, _, _, _, _, _, _, _, _, _, _, _, _, _, _]) rfl dX11_origin_237 (by decide) rfl rfl ?_
    refine g_iload (q0 := 241) (j := 6) rfl dX11_origin_239 rfl ?_
    refine g_iload (q0 := 243) (j := 14) rfl dX11_origin_241 rfl ?_
    refine g_iload (q0 := 245) (j := 13) rfl dX11_origin_243 rfl ?_
    refine g_icmp_ne (q0 := 248) (tgt := 252) rfl dX11_origin_245 (by decide) (fun h245 => ?_) (fun h245 => ?_)
    · replace h := wI_neg h245 h
      refine g_iconst (q0 := 253) rfl dX11_origin_252 (k := ?_)
      exact h
    · replace h := wI_pos h245 h
      refine g_iconst (q0 := 249) rfl dX11_origin_248 (k := ?_)
      refine g_goto (tgt := 253) dX11_origin_249 (by decide) ?_
      exact h
  · replace h := wI_pos h183 h
    refine g_goto (tgt := 285) dX11_origin_186 (by decide) ?_
    refine g_iload_n (q0 := 286) (j := 3) rfl dX11_origin_285 rfl ?_
    by_cases hs0 : x3 = 0
    · replace h := wI_pos hs0 h
      refine g_tabIn (off := 30) (tgt := 316) dX11_origin_286 (by omega) (by omega) (by rw [hs0]; rfl) (by decide) ?_
      refine g_iload (q0 := 318) (j := 4) rfl dX11_origin_316 rfl ?_
      exact g_ireturn dX11_origin_318 rfl ⟨Nat.zero_le _, Nat.zero_le _⟩ h
    · replace h := wI_neg hs0 h
      by_cases hs1 : x3 = 1
      · replace h := wI_pos hs1 h
        refine g_tabIn (off := 33) (tgt := 319) dX11_origin_286 (by omega) (by omega) (by rw [hs1]; rfl) (by decide) ?_
        refine g_iload (q0 := 321) (j := 5) rfl dX11_origin_319 rfl ?_
        exact g_ireturn dX11_origin_321 rfl ⟨Nat.zero_le _, Nat.zero_le _⟩ h
      · replace h := wI_neg hs1 h
        by_cases hs2 : x3 = 2
        · replace h := wI_pos hs2 h
          refine g_tabIn (off := 36) (tgt := 322) dX11_origin_286 (by omega) (by omega) (by rw [hs2]; rfl) (by decide) ?_
          refine g_iload (q0 := 324) (j := 6) rfl dX11_origin_322 rfl ?_
          exact g_ireturn dX11_origin_324 rfl ⟨Nat.zero_le _, Nat.zero_le _⟩ h
        · replace h := wI_neg hs2 h
          by_cases hs3 : x3 = 3
          · replace h := wI_pos hs3 h
            refine g_tabIn (off := 39) (tgt := 325) dX11_origin_286 (by omega) (by omega) (by rw [hs3]; rfl) (by decide) ?_
            refine g_iload (q0 := 327) (j := 7) rfl dX11_origin_325 rfl ?_
            exact g_ireturn dX11_origin_327 rfl ⟨Nat.zero_le _, Nat.zero_le _⟩ h
          · replace h := wI_neg hs3 h
            refine g_tabOut (tgt := 328) dX11_origin_286 (by omega) (by decide) ?_
            refine g_fload (q0 := 330) (j := 8) rfl dX11_origin_328 rfl ?_
            obtain ⟨v330, e330, h⟩ := h
            refine g_callSp (as := [_]) (rest := []) mt_X11_floatBits ms_X11_floatBits ml_X11_584 dX11_origin_330 (q0 := 333) rfl rfl e330 rfl ⟨by decide, by decide⟩ (Nat.le_of_ble_eq_true rfl) ⟨Nat.zero_le _, Nat.zero_le _⟩ (fun _ => ?_)
            exact g_ireturn dX11_origin_333 rfl ⟨Nat.zero_le _, Nat.zero_le _⟩ h
theorem w_X11_origin_253 {sh : gS} {Q : Option gV → gS → gM → Prop} {x1 x2 x3 x4 x5 x6 x7 x8 x9 x10 x11 x12 x13 x14 s0 s1 : Int} {M : gM} (hOK : gOK sh M) (h : (if x11 = 0 then
    (P_X11_origin_65 sh Q x1 x2 x3 x10 x12 (gw32 (s0 + s1)) (gw32 (x7 + (0 : Int))) x8 (gw32 (x9 + 1)) M)
  else
    (P_X11_origin_65 sh Q x1 x2 x3 x10 x12 (gw32 (s0 + s1)) (gw32 (x7 + (1 : Int))) x8 (gw32 (x9 + 1)) M))) : P_X11_origin_253 sh Q x1 x2 x3 x4 x5 x6 x7 x8 x9 x10 x11 x12 x13 x14 s0 s1 M := by
  unfold P_X11_origin_253
  refine g_iaddw (q0 := 254) rfl dX11_origin_253 ?_
  refine g_istore (q0 := 256) (j := 6) (lv2 := [_, _, _, _, _, _, _, _, _, _, _, _, _, _, _]) rfl dX11_origin_254 (by decide) rfl rfl ?_
  refine g_iload (q0 := 258) (j := 7) rfl dX11_origin_256 rfl ?_
  refine g_iload (q0 := 260) (j := 11) rfl dX11_origin_258 rfl ?_
  refine g_if_eq (q0 := 263) (tgt := 267) rfl dX11_origin_260 (by decide) (fun h260 => ?_) (fun h260 => ?_)
  · replace h := wI_pos h260 h
    refine g_iconst (q0 := 268) rfl dX11_origin_267 (k := ?_)
    refine g_iaddw (q0 := 269) rfl dX11_origin_268 ?_
    refine g_istore (q0 := 271) (j := 7) (lv2 := [_, _, _, _, _, _, _, _, _, _, _, _, _, _, _]) rfl dX11_origin_269 (by decide) rfl rfl ?_
    refine g_iload (q0 := 273) (j := 10) rfl dX11_origin_271 rfl ?_
    refine g_istore (q0 := 275) (j := 4) (lv2 := [_, _, _, _, _, _, _, _, _, _, _, _, _, _, _]) rfl dX11_origin_273 (by decide) rfl rfl ?_
    refine g_iload (q0 := 277) (j := 12) rfl dX11_origin_275 rfl ?_
    refine g_istore (q0 := 279) (j := 5) (lv2 := [_, _, _, _, _, _, _, _, _, _, _, _, _, _, _]) rfl dX11_origin_277 (by decide) rfl rfl ?_
    refine g_iincw (q0 := 282) (lv2 := [_, _, _, _, _, _, _, _, _, _, _, _, _, _, _]) rfl dX11_origin_279 rfl (by decide) rfl rfl ?_
    refine g_goto (tgt := 65) dX11_origin_282 (by decide) ?_
    refine gA_jk (lv1 := [_, _, _, _, _, _, _, _, _, _, (9, 0), (9, 0), (9, 0), (9, 0), (9, 0)]) ⟨.inl rfl, .inl rfl, .inl rfl, .inl rfl, .inl rfl, .inl rfl, .inl rfl, .inl rfl, .inl rfl, .inl rfl, .inr rfl, .inr rfl, .inr rfl, .inr rfl, .inr rfl, trivial⟩ ?_
    exact h
  · replace h := wI_neg h260 h
    refine g_iconst (q0 := 264) rfl dX11_origin_263 (k := ?_)
    refine g_goto (tgt := 268) dX11_origin_264 (by decide) ?_
    refine g_iaddw (q0 := 269) rfl dX11_origin_268 ?_
    refine g_istore (q0 := 271) (j := 7) (lv2 := [_, _, _, _, _, _, _, _, _, _, _, _, _, _, _]) rfl dX11_origin_269 (by decide) rfl rfl ?_
    refine g_iload (q0 := 273) (j := 10) rfl dX11_origin_271 rfl ?_
    refine g_istore (q0 := 275) (j := 4) (lv2 := [_, _, _, _, _, _, _, _, _, _, _, _, _, _, _]) rfl dX11_origin_273 (by decide) rfl rfl ?_
    refine g_iload (q0 := 277) (j := 12) rfl dX11_origin_275 rfl ?_
    refine g_istore (q0 := 279) (j := 5) (lv2 := [_, _, _, _, _, _, _, _, _, _, _, _, _, _, _]) rfl dX11_origin_277 (by decide) rfl rfl ?_
    refine g_iincw (q0 := 282) (lv2 := [_, _, _, _, _, _, _, _, _, _, _, _, _, _, _]) rfl dX11_origin_279 rfl (by decide) rfl rfl ?_
    refine g_goto (tgt := 65) dX11_origin_282 (by decide) ?_
    refine gA_jk (lv1 := [_, _, _, _, _, _, _, _, _, _, (9, 0), (9, 0), (9, 0), (9, 0), (9, 0)]) ⟨.inl rfl, .inl rfl, .inl rfl, .inl rfl, .inl rfl, .inl rfl, .inl rfl, .inl rfl, .inl rfl, .inl rfl, .inr rfl, .inr rfl, .inr rfl, .inr rfl, .inr rfl, trivial⟩ ?_
    exact h
theorem w_X11_origin {sh : gS} {Q : Option gV → gS → gM → Prop} {a1 a2 a3 : Int} {M : gM} (hOK : gOK sh M) (h : (∃ v5 : Int, gC (gr 0 0) yX1_has cX1_has 2 (some (.boolean)) [(4, 4), (0, a1)] sh M (gPp sh M (0, v5)) ∧
    (if v5 = 0 then
      (Q (some (0, -1)) sh M)
    else
      (∃ v12 : Int, gC (gr 0 0) yX11_isFile cX11_isFile 1 (some (.boolean)) [(0, a2)] sh M (gPp sh M (0, v12)) ∧
        (if v12 = 0 then
          (Q (some (0, -1)) sh M)
        else
          (if a3 < 0 then
            (Q (some (0, -1)) sh M)
          else
            (if (4 : Int) < a3 then
              (Q (some (0, -1)) sh M)
            else
              (∃ v35 : Int, gC (gr 0 0) yX1_tree cX1_tree 2 (some (.object "CarriedHistory$Tree")) [(4, 4), (0, a1)] sh M (gPp sh M (4, v35)) ∧
                ((gsh sh v35 = some (0, 11) ∧ v35 < 758) ∧
                  (if a2 < (M v35 2) then
                    (P_X11_origin_65 sh Q a1 a2 a3 a1 a2 0 0 (gfl FP.fconst1) 0 M)
                  else
                    (Q (some (0, -4)) sh M))))))))))) : gC (gr 5 119) yX11_origin cX11_origin 15 (some (.int)) [(4, 0), (0, a1), (0, a2), (0, a3)] sh M Q := by
  refine gC_ofA (lv := [_, _, _, _, _, _, _, _, _, _, _, _, _, _, _]) (by decide +kernel) (Nat.le_of_ble_eq_true rfl) rfl (fun hMw hav => ?_)
  refine g_aload_n (q0 := 1) (j := 0) rfl dX11_origin_0 rfl ?_
  refine g_getp (q0 := 4) (b := 4) rfl ff_X11_27 dX11_origin_1 rfl hOK (by decide) (sh_0 hOK) rfl (by decide) ?_
  refine g_iload_n (q0 := 5) (j := 1) rfl dX11_origin_4 rfl ?_
  obtain ⟨v5, e5, h⟩ := h
  refine g_callVp (as := [_]) (rest := []) mt_X1_has mi_X1_has se_X1_has ml_X11_152 dX11_origin_5 (q0 := 8) rfl rfl (sh_4 hOK) rfl rfl e5 rfl ⟨by decide, by decide⟩ (Nat.le_of_ble_eq_true rfl) ⟨Nat.zero_le _, Nat.zero_le _⟩ (fun _ => ?_)
  refine g_if_eq (q0 := 11) (tgt := 27) rfl dX11_origin_8 (by decide) (fun h8 => ?_) (fun h8 => ?_)
  · replace h := wI_pos h8 h
    refine g_iconst (q0 := 28) rfl dX11_origin_27 (k := ?_)
    exact g_ireturn dX11_origin_28 rfl ⟨Nat.zero_le _, Nat.zero_le _⟩ h
  · replace h := wI_neg h8 h
    refine g_iload_n (q0 := 12) (j := 2) rfl dX11_origin_11 rfl ?_
    obtain ⟨v12, e12, h⟩ := h
    refine g_callSp (as := [_]) (rest := []) mt_X11_isFile ms_X11_isFile ml_X11_591 dX11_origin_12 (q0 := 15) rfl rfl e12 rfl ⟨by decide, by decide⟩ (Nat.le_of_ble_eq_true rfl) ⟨Nat.zero_le _, Nat.zero_le _⟩ (fun _ => ?_)
    refine g_if_eq (q0 := 18) (tgt := 27) rfl dX11_origin_15 (by decide) (fun h15 => ?_) (fun h15 => ?_)
    · replace h := wI_pos h15 h
      refine g_iconst (q0 := 28) rfl dX11_origin_27 (k := ?_)
      exact g_ireturn dX11_origin_28 rfl ⟨Nat.zero_le _, Nat.zero_le _⟩ h
    · replace h := wI_neg h15 h
      refine g_iload_n (q0 := 19) (j := 3) rfl dX11_origin_18 rfl ?_
      refine g_if_lt (q0 := 22) (tgt := 27) rfl dX11_origin_19 (by decide) (fun h19 => ?_) (fun h19 => ?_)
      · replace h := wI_pos h19 h
        refine g_iconst (q0 := 28) rfl dX11_origin_27 (k := ?_)
        exact g_ireturn dX11_origin_28 rfl ⟨Nat.zero_le _, Nat.zero_le _⟩ h
      · replace h := wI_neg (Int.not_lt.mpr h19) h
        refine g_iload_n (q0 := 23) (j := 3) rfl dX11_origin_22 rfl ?_
        refine g_iconst (q0 := 24) rfl dX11_origin_23 (k := ?_)
        refine g_icmp_le (q0 := 27) (tgt := 29) rfl dX11_origin_24 (by decide) (fun h24 => ?_) (fun h24 => ?_)
        · replace h := wI_neg (Int.not_lt.mpr h24) h
          refine g_iload_n (q0 := 30) (j := 2) rfl dX11_origin_29 rfl ?_
          refine g_aload_n (q0 := 31) (j := 0) rfl dX11_origin_30 rfl ?_
          refine g_getp (q0 := 34) (b := 4) rfl ff_X11_27 dX11_origin_31 rfl hOK (by decide) (sh_0 hOK) rfl (by decide) ?_
          refine g_iload_n (q0 := 35) (j := 1) rfl dX11_origin_34 rfl ?_
          obtain ⟨v35, e35, h⟩ := h
          refine g_callVp (as := [_]) (rest := [_]) mt_X1_tree mi_X1_tree se_X1_tree ml_X11_155 dX11_origin_35 (q0 := 38) rfl rfl (sh_4 hOK) rfl rfl e35 rfl ⟨by decide, by decide⟩ (Nat.le_of_ble_eq_true rfl) ⟨Nat.zero_le _, Nat.zero_le _⟩ (fun _ => ?_)
          obtain ⟨g17, h⟩ := h
          refine g_getf (q0 := 41) (t := 0) (fi := 2) rfl rfl ff_X11_159 dX11_origin_38 rfl g17.1 ?_
          refine g_icmp_lt (q0 := 44) (tgt := 47) rfl dX11_origin_41 (by decide) (fun h41 => ?_) (fun h41 => ?_)
          · replace h := wI_pos h41 h
            refine g_iload_n (q0 := 48) (j := 1) rfl dX11_origin_47 rfl ?_
            refine g_istore (q0 := 50) (j := 4) (lv2 := [_, _, _, _, _, _, _, _, _, _, _, _, _, _, _]) rfl dX11_origin_48 (by decide) rfl rfl ?_
            refine g_iload_n (q0 := 51) (j := 2) rfl dX11_origin_50 rfl ?_
            refine g_istore (q0 := 53) (j := 5) (lv2 := [_, _, _, _, _, _, _, _, _, _, _, _, _, _, _]) rfl dX11_origin_51 (by decide) rfl rfl ?_
            refine g_iconst (q0 := 54) rfl dX11_origin_53 (k := ?_)
            refine g_istore (q0 := 56) (j := 6) (lv2 := [_, _, _, _, _, _, _, _, _, _, _, _, _, _, _]) rfl dX11_origin_54 (by decide) rfl rfl ?_
            refine g_iconst (q0 := 57) rfl dX11_origin_56 (k := ?_)
            refine g_istore (q0 := 59) (j := 7) (lv2 := [_, _, _, _, _, _, _, _, _, _, _, _, _, _, _]) rfl dX11_origin_57 (by decide) rfl rfl ?_
            refine g_fconst1 (q0 := 60) rfl dX11_origin_59 ?_
            refine g_fstore (q0 := 62) (j := 8) (lv2 := [_, _, _, _, _, _, _, _, _, _, _, _, _, _, _]) rfl dX11_origin_60 (by decide) rfl rfl ?_
            refine g_iconst (q0 := 63) rfl dX11_origin_62 (k := ?_)
            refine g_istore (q0 := 65) (j := 9) (lv2 := [_, _, _, _, _, _, _, _, _, _, _, _, _, _, _]) rfl dX11_origin_63 (by decide) rfl rfl ?_
            exact h
          · replace h := wI_neg (Int.not_lt.mpr h41) h
            refine g_bipush (q0 := 46) rfl dX11_origin_44 (k := ?_)
            exact g_ireturn dX11_origin_46 rfl ⟨Nat.zero_le _, Nat.zero_le _⟩ h
        · replace h := wI_pos h24 h
          refine g_iconst (q0 := 28) rfl dX11_origin_27 (k := ?_)
          exact g_ireturn dX11_origin_28 rfl ⟨Nat.zero_le _, Nat.zero_le _⟩ h
-- ==== X11_parentWithFile
theorem dX11_parentWithFile_0 : decode cX11_parentWithFile 0 = .ok (.iconst 0, 1) := by decide +kernel
theorem dX11_parentWithFile_1 : decode cX11_parentWithFile 1 = .ok (.istore_n 3, 1) := by decide +kernel
theorem dX11_parentWithFile_2 : decode cX11_parentWithFile 2 = .ok (.iload_n 3, 1) := by decide +kernel
theorem dX11_parentWithFile_3 : decode cX11_parentWithFile 3 = .ok (.aload_n 0, 1) := by decide +kernel
theorem dX11_parentWithFile_4 : decode cX11_parentWithFile 4 = .ok (.getfield 27, 3) := by decide +kernel
theorem dX11_parentWithFile_7 : decode cX11_parentWithFile 7 = .ok (.getfield 295, 3) := by decide +kernel
theorem dX11_parentWithFile_10 : decode cX11_parentWithFile 10 = .ok (.iload_n 1, 1) := by decide +kernel
theorem dX11_parentWithFile_11 : decode cX11_parentWithFile 11 = .ok (.iaload, 1) := by decide +kernel
theorem dX11_parentWithFile_12 : decode cX11_parentWithFile 12 = .ok (.if_icmp .ge 39, 3) := by decide +kernel
theorem dX11_parentWithFile_15 : decode cX11_parentWithFile 15 = .ok (.aload_n 0, 1) := by decide +kernel
theorem dX11_parentWithFile_16 : decode cX11_parentWithFile 16 = .ok (.getfield 27, 3) := by decide +kernel
theorem dX11_parentWithFile_19 : decode cX11_parentWithFile 19 = .ok (.iload_n 1, 1) := by decide +kernel
theorem dX11_parentWithFile_20 : decode cX11_parentWithFile 20 = .ok (.iload_n 3, 1) := by decide +kernel
theorem dX11_parentWithFile_21 : decode cX11_parentWithFile 21 = .ok (.invokevirtual 314, 3) := by decide +kernel
theorem dX11_parentWithFile_24 : decode cX11_parentWithFile 24 = .ok (.istore 4, 2) := by decide +kernel
theorem dX11_parentWithFile_26 : decode cX11_parentWithFile 26 = .ok (.aload_n 0, 1) := by decide +kernel
theorem dX11_parentWithFile_27 : decode cX11_parentWithFile 27 = .ok (.getfield 27, 3) := by decide +kernel
theorem dX11_parentWithFile_30 : decode cX11_parentWithFile 30 = .ok (.iload 4, 2) := by decide +kernel
theorem dX11_parentWithFile_32 : decode cX11_parentWithFile 32 = .ok (.invokevirtual 155, 3) := by decide +kernel
theorem dX11_parentWithFile_35 : decode cX11_parentWithFile 35 = .ok (.iload_n 2, 1) := by decide +kernel
theorem dX11_parentWithFile_36 : decode cX11_parentWithFile 36 = .ok (.invokevirtual 347, 3) := by decide +kernel
theorem dX11_parentWithFile_39 : decode cX11_parentWithFile 39 = .ok (.ifCond .lt 6, 3) := by decide +kernel
theorem dX11_parentWithFile_42 : decode cX11_parentWithFile 42 = .ok (.iload 4, 2) := by decide +kernel
theorem dX11_parentWithFile_44 : decode cX11_parentWithFile 44 = .ok (.ireturn, 1) := by decide +kernel
theorem dX11_parentWithFile_45 : decode cX11_parentWithFile 45 = .ok (.iinc 3 1, 3) := by decide +kernel
theorem dX11_parentWithFile_48 : decode cX11_parentWithFile 48 = .ok (.goto (-46), 3) := by decide +kernel
theorem dX11_parentWithFile_51 : decode cX11_parentWithFile 51 = .ok (.iconst (-1), 1) := by decide +kernel
theorem dX11_parentWithFile_52 : decode cX11_parentWithFile 52 = .ok (.ireturn, 1) := by decide +kernel
def P_X11_parentWithFile_2 (sh : gS) (Q : Option gV → gS → gM → Prop) (x1 x2 x3 : Int) (M : gM) : Prop := gA (gr 1 22) yX11_parentWithFile cX11_parentWithFile 5 (some (.int)) Q (0, 0) 2 [(4, 0), (0, x1), (0, x2), (0, x3), (9, 0)] [] sh M
theorem w_X11_parentWithFile_2 {sh : gS} {Q : Option gV → gS → gM → Prop} {x1 x2 x3 : Int} {M : gM} (hOK : gOK sh M) (h : ((0 ≤ x1 ∧ x1 < 120) ∧
    (if x3 < (M 5 x1) then
      (∃ v21 : Int, gC (gr 0 0) yX1_parent cX1_parent 3 (some (.int)) [(4, 4), (0, x1), (0, x3)] sh M (gPp sh M (0, v21)) ∧
        (∃ v32 : Int, gC (gr 0 0) yX1_tree cX1_tree 2 (some (.object "CarriedHistory$Tree")) [(4, 4), (0, v21)] sh M (gPp sh M (4, v32)) ∧
          ((gsh sh v32 = some (0, 11) ∧ v32 < 758) ∧
            (∃ v36 : Int, gC (gr 0 0) yX10_find cX10_find 3 (some (.int)) [(4, v32), (0, x2)] sh M (gPp sh M (0, v36)) ∧
              (if v36 < 0 then
                (P_X11_parentWithFile_2 sh Q x1 x2 (gw32 (x3 + 1)) M)
              else
                (Q (some (0, v21)) sh M))))))
    else
      (Q (some (0, -1)) sh M)))) : P_X11_parentWithFile_2 sh Q x1 x2 x3 M := by
  unfold P_X11_parentWithFile_2
  refine g_iload_n (q0 := 3) (j := 3) rfl dX11_parentWithFile_2 rfl ?_
  refine g_aload_n (q0 := 4) (j := 0) rfl dX11_parentWithFile_3 rfl ?_
  refine g_getp (q0 := 7) (b := 4) rfl ff_X11_27 dX11_parentWithFile_4 rfl hOK (by decide) (sh_0 hOK) rfl (by decide) ?_
  refine g_getp (q0 := 10) (b := 5) rfl ff_X11_295 dX11_parentWithFile_7 rfl hOK (by decide) (sh_4 hOK) rfl (by decide) ?_
  refine g_iload_n (q0 := 11) (j := 1) rfl dX11_parentWithFile_10 rfl ?_
  obtain ⟨g1, h⟩ := h
  refine g_iald (q0 := 12) rfl dX11_parentWithFile_11 (sh_5 hOK) g1.1 g1.2 ?_
  refine g_icmp_ge (q0 := 15) (tgt := 51) rfl dX11_parentWithFile_12 (by decide) (fun h12 => ?_) (fun h12 => ?_)
  · replace h := wI_neg (Int.not_lt.mpr h12) h
    refine g_iconst (q0 := 52) rfl dX11_parentWithFile_51 (k := ?_)
    exact g_ireturn dX11_parentWithFile_52 rfl ⟨Nat.zero_le _, Nat.zero_le _⟩ h
  · replace h := wI_pos h12 h
    refine g_aload_n (q0 := 16) (j := 0) rfl dX11_parentWithFile_15 rfl ?_
    refine g_getp (q0 := 19) (b := 4) rfl ff_X11_27 dX11_parentWithFile_16 rfl hOK (by decide) (sh_0 hOK) rfl (by decide) ?_
    refine g_iload_n (q0 := 20) (j := 1) rfl dX11_parentWithFile_19 rfl ?_
    refine g_iload_n (q0 := 21) (j := 3) rfl dX11_parentWithFile_20 rfl ?_
    obtain ⟨v21, e21, h⟩ := h
    refine g_callVp (as := [_, _]) (rest := []) mt_X1_parent mi_X1_parent se_X1_parent ml_X11_314 dX11_parentWithFile_21 (q0 := 24) rfl rfl (sh_4 hOK) rfl rfl e21 rfl ⟨by decide, by decide⟩ (Nat.le_of_ble_eq_true rfl) ⟨Nat.zero_le _, Nat.zero_le _⟩ (fun _ => ?_)
    refine g_istore (q0 := 26) (j := 4) (lv2 := [_, _, _, _, _]) rfl dX11_parentWithFile_24 (by decide) rfl rfl ?_
    refine g_aload_n (q0 := 27) (j := 0) rfl dX11_parentWithFile_26 rfl ?_
    refine g_getp (q0 := 30) (b := 4) rfl ff_X11_27 dX11_parentWithFile_27 rfl hOK (by decide) (sh_0 hOK) rfl (by decide) ?_
    refine g_iload (q0 := 32) (j := 4) rfl dX11_parentWithFile_30 rfl ?_
    obtain ⟨v32, e32, h⟩ := h
    refine g_callVp (as := [_]) (rest := []) mt_X1_tree mi_X1_tree se_X1_tree ml_X11_155 dX11_parentWithFile_32 (q0 := 35) rfl rfl (sh_4 hOK) rfl rfl e32 rfl ⟨by decide, by decide⟩ (Nat.le_of_ble_eq_true rfl) ⟨Nat.zero_le _, Nat.zero_le _⟩ (fun _ => ?_)
    refine g_iload_n (q0 := 36) (j := 2) rfl dX11_parentWithFile_35 rfl ?_
    obtain ⟨g2, h⟩ := h
    obtain ⟨v36, e36, h⟩ := h
    refine g_callVp (as := [_]) (rest := []) mt_X10_find mi_X10_find se_X10_find ml_X11_347 dX11_parentWithFile_36 (q0 := 39) rfl rfl g2.1 rfl rfl e36 rfl ⟨by decide, by decide⟩ (Nat.le_of_ble_eq_true rfl) ⟨Nat.zero_le _, Nat.zero_le _⟩ (fun _ => ?_)
    refine g_if_lt (q0 := 42) (tgt := 45) rfl dX11_parentWithFile_39 (by decide) (fun h39 => ?_) (fun h39 => ?_)
    · replace h := wI_pos h39 h
      refine g_iincw (q0 := 48) (lv2 := [_, _, _, _, _]) rfl dX11_parentWithFile_45 rfl (by decide) rfl rfl ?_
      refine g_goto (tgt := 2) dX11_parentWithFile_48 (by decide) ?_
      refine gA_jk (lv1 := [_, _, _, _, (9, 0)]) ⟨.inl rfl, .inl rfl, .inl rfl, .inl rfl, .inr rfl, trivial⟩ ?_
      exact h
    · replace h := wI_neg (Int.not_lt.mpr h39) h
      refine g_iload (q0 := 44) (j := 4) rfl dX11_parentWithFile_42 rfl ?_
      exact g_ireturn dX11_parentWithFile_44 rfl ⟨Nat.zero_le _, Nat.zero_le _⟩ h
theorem w_X11_parentWithFile {sh : gS} {Q : Option gV → gS → gM → Prop} {a1 a2 : Int} {M : gM} (hOK : gOK sh M) (h : (P_X11_parentWithFile_2 sh Q a1 a2 0 M)) : gC (gr 1 22) yX11_parentWithFile cX11_parentWithFile 5 (some (.int)) [(4, 0), (0, a1), (0, a2)] sh M Q := by
  refine gC_ofA (lv := [_, _, _, _, _]) (by decide +kernel) (Nat.le_of_ble_eq_true rfl) rfl (fun hMw hav => ?_)
  refine g_iconst (q0 := 1) rfl dX11_parentWithFile_0 (k := ?_)
  refine g_istore_n (q0 := 2) (j := 3) (lv2 := [_, _, _, _, _]) rfl dX11_parentWithFile_1 (by decide) rfl rfl ?_
  exact h
-- ==== X11_parentRenamed
theorem dX11_parentRenamed_0 : decode cX11_parentRenamed 0 = .ok (.iconst 0, 1) := by decide +kernel
theorem dX11_parentRenamed_1 : decode cX11_parentRenamed 1 = .ok (.istore_n 3, 1) := by decide +kernel
theorem dX11_parentRenamed_2 : decode cX11_parentRenamed 2 = .ok (.iload_n 3, 1) := by decide +kernel
theorem dX11_parentRenamed_3 : decode cX11_parentRenamed 3 = .ok (.aload_n 0, 1) := by decide +kernel
theorem dX11_parentRenamed_4 : decode cX11_parentRenamed 4 = .ok (.getfield 27, 3) := by decide +kernel
theorem dX11_parentRenamed_7 : decode cX11_parentRenamed 7 = .ok (.getfield 295, 3) := by decide +kernel
theorem dX11_parentRenamed_10 : decode cX11_parentRenamed 10 = .ok (.iload_n 1, 1) := by decide +kernel
theorem dX11_parentRenamed_11 : decode cX11_parentRenamed 11 = .ok (.iaload, 1) := by decide +kernel
theorem dX11_parentRenamed_12 : decode cX11_parentRenamed 12 = .ok (.if_icmp .ge 65, 3) := by decide +kernel
theorem dX11_parentRenamed_15 : decode cX11_parentRenamed 15 = .ok (.aload_n 0, 1) := by decide +kernel
theorem dX11_parentRenamed_16 : decode cX11_parentRenamed 16 = .ok (.getfield 27, 3) := by decide +kernel
theorem dX11_parentRenamed_19 : decode cX11_parentRenamed 19 = .ok (.iload_n 1, 1) := by decide +kernel
theorem dX11_parentRenamed_20 : decode cX11_parentRenamed 20 = .ok (.iload_n 3, 1) := by decide +kernel
theorem dX11_parentRenamed_21 : decode cX11_parentRenamed 21 = .ok (.invokevirtual 314, 3) := by decide +kernel
theorem dX11_parentRenamed_24 : decode cX11_parentRenamed 24 = .ok (.istore 4, 2) := by decide +kernel
theorem dX11_parentRenamed_26 : decode cX11_parentRenamed 26 = .ok (.aload_n 0, 1) := by decide +kernel
theorem dX11_parentRenamed_27 : decode cX11_parentRenamed 27 = .ok (.getfield 62, 3) := by decide +kernel
theorem dX11_parentRenamed_30 : decode cX11_parentRenamed 30 = .ok (.aload_n 0, 1) := by decide +kernel
theorem dX11_parentRenamed_31 : decode cX11_parentRenamed 31 = .ok (.getfield 27, 3) := by decide +kernel
theorem dX11_parentRenamed_34 : decode cX11_parentRenamed 34 = .ok (.iload 4, 2) := by decide +kernel
theorem dX11_parentRenamed_36 : decode cX11_parentRenamed 36 = .ok (.invokevirtual 155, 3) := by decide +kernel
theorem dX11_parentRenamed_39 : decode cX11_parentRenamed 39 = .ok (.aload_n 0, 1) := by decide +kernel
theorem dX11_parentRenamed_40 : decode cX11_parentRenamed 40 = .ok (.getfield 27, 3) := by decide +kernel
theorem dX11_parentRenamed_43 : decode cX11_parentRenamed 43 = .ok (.iload_n 1, 1) := by decide +kernel
theorem dX11_parentRenamed_44 : decode cX11_parentRenamed 44 = .ok (.invokevirtual 155, 3) := by decide +kernel
theorem dX11_parentRenamed_47 : decode cX11_parentRenamed 47 = .ok (.invokevirtual 274, 3) := by decide +kernel
theorem dX11_parentRenamed_50 : decode cX11_parentRenamed 50 = .ok (.aload_n 0, 1) := by decide +kernel
theorem dX11_parentRenamed_51 : decode cX11_parentRenamed 51 = .ok (.getfield 62, 3) := by decide +kernel
theorem dX11_parentRenamed_54 : decode cX11_parentRenamed 54 = .ok (.invokevirtual 565, 3) := by decide +kernel
theorem dX11_parentRenamed_57 : decode cX11_parentRenamed 57 = .ok (.aload_n 0, 1) := by decide +kernel
theorem dX11_parentRenamed_58 : decode cX11_parentRenamed 58 = .ok (.getfield 62, 3) := by decide +kernel
theorem dX11_parentRenamed_61 : decode cX11_parentRenamed 61 = .ok (.iload_n 2, 1) := by decide +kernel
theorem dX11_parentRenamed_62 : decode cX11_parentRenamed 62 = .ok (.invokevirtual 609, 3) := by decide +kernel
theorem dX11_parentRenamed_65 : decode cX11_parentRenamed 65 = .ok (.ifCond .lt 6, 3) := by decide +kernel
theorem dX11_parentRenamed_68 : decode cX11_parentRenamed 68 = .ok (.iload 4, 2) := by decide +kernel
theorem dX11_parentRenamed_70 : decode cX11_parentRenamed 70 = .ok (.ireturn, 1) := by decide +kernel
theorem dX11_parentRenamed_71 : decode cX11_parentRenamed 71 = .ok (.iinc 3 1, 3) := by decide +kernel
theorem dX11_parentRenamed_74 : decode cX11_parentRenamed 74 = .ok (.goto (-72), 3) := by decide +kernel
theorem dX11_parentRenamed_77 : decode cX11_parentRenamed 77 = .ok (.iconst (-1), 1) := by decide +kernel
theorem dX11_parentRenamed_78 : decode cX11_parentRenamed 78 = .ok (.ireturn, 1) := by decide +kernel
def P_X11_parentRenamed_2 (sh : gS) (Q : Option gV → gS → gM → Prop) (x1 x2 x3 : Int) (M : gM) : Prop := gA (gr 4 95) yX11_parentRenamed cX11_parentRenamed 5 (some (.int)) Q (0, 0) 2 [(4, 0), (0, x1), (0, x2), (0, x3), (9, 0)] [] sh M
theorem w_X11_parentRenamed_2 {sh : gS} {Q : Option gV → gS → gM → Prop} {x1 x2 x3 : Int} {M : gM} (hOK : gOK sh M) (h : ((0 ≤ x1 ∧ x1 < 120) ∧
    (if x3 < (M 5 x1) then
      (∃ v21 : Int, gC (gr 0 0) yX1_parent cX1_parent 3 (some (.int)) [(4, 4), (0, x1), (0, x3)] sh M (gPp sh M (0, v21)) ∧
        (∃ v36 : Int, gC (gr 0 0) yX1_tree cX1_tree 2 (some (.object "CarriedHistory$Tree")) [(4, 4), (0, v21)] sh M (gPp sh M (4, v36)) ∧
          (∃ v44 : Int, gC (gr 0 0) yX1_tree cX1_tree 2 (some (.object "CarriedHistory$Tree")) [(4, 4), (0, x1)] sh M (gPp sh M (4, v44)) ∧
            (∃ P47 : Option gV → gM → Prop, gC (gr 1 25) yX0_measure cX0_measure 10 none [(4, 440), (4, v36), (4, v44)] sh M (gPm sh P47) ∧ ∀ (r47 : Option gV) (M47 : gM), P47 r47 M47 → r47 = none ∧ gOK sh M47 ∧
              (∃ P54 : Option gV → gM → Prop, gC (gr 3 73) yX0_pairUp cX0_pairUp 3 none [(4, 440)] sh M47 (gPm sh P54) ∧ ∀ (r54 : Option gV) (M54 : gM), P54 r54 M54 → r54 = none ∧ gOK sh M54 ∧
                (∃ v62 : Int, gC (gr 0 0) yX0_pairedWith cX0_pairedWith 3 (some (.int)) [(4, 440), (0, x2)] sh M54 (gPp sh M54 (0, v62)) ∧
                  (if v62 < 0 then
                    (P_X11_parentRenamed_2 sh Q x1 x2 (gw32 (x3 + 1)) M54)
                  else
                    (Q (some (0, v21)) sh M54))))))))
    else
      (Q (some (0, -1)) sh M)))) : P_X11_parentRenamed_2 sh Q x1 x2 x3 M := by
  unfold P_X11_parentRenamed_2
  refine g_iload_n (q0 := 3) (j := 3) rfl dX11_parentRenamed_2 rfl ?_
  refine g_aload_n (q0 := 4) (j := 0) rfl dX11_parentRenamed_3 rfl ?_
  refine g_getp (q0 := 7) (b := 4) rfl ff_X11_27 dX11_parentRenamed_4 rfl hOK (by decide) (sh_0 hOK) rfl (by decide) ?_
  refine g_getp (q0 := 10) (b := 5) rfl ff_X11_295 dX11_parentRenamed_7 rfl hOK (by decide) (sh_4 hOK) rfl (by decide) ?_
  refine g_iload_n (q0 := 11) (j := 1) rfl dX11_parentRenamed_10 rfl ?_
  obtain ⟨g1, h⟩ := h
  refine g_iald (q0 := 12) rfl dX11_parentRenamed_11 (sh_5 hOK) g1.1 g1.2 ?_
  refine g_icmp_ge (q0 := 15) (tgt := 77) rfl dX11_parentRenamed_12 (by decide) (fun h12 => ?_) (fun h12 => ?_)
  · replace h := wI_neg (Int.not_lt.mpr h12) h
    refine g_iconst (q0 := 78) rfl dX11_parentRenamed_77 (k := ?_)
    exact g_ireturn dX11_parentRenamed_78 rfl ⟨Nat.zero_le _, Nat.zero_le _⟩ h
  · replace h := wI_pos h12 h
    refine g_aload_n (q0 := 16) (j := 0) rfl dX11_parentRenamed_15 rfl ?_
    refine g_getp (q0 := 19) (b := 4) rfl ff_X11_27 dX11_parentRenamed_16 rfl hOK (by decide) (sh_0 hOK) rfl (by decide) ?_
    refine g_iload_n (q0 := 20) (j := 1) rfl dX11_parentRenamed_19 rfl ?_
    refine g_iload_n (q0 := 21) (j := 3) rfl dX11_parentRenamed_20 rfl ?_
    obtain ⟨v21, e21, h⟩ := h
    refine g_callVp (as := [_, _]) (rest := []) mt_X1_parent mi_X1_parent se_X1_parent ml_X11_314 dX11_parentRenamed_21 (q0 := 24) rfl rfl (sh_4 hOK) rfl rfl e21 rfl ⟨by decide, by decide⟩ (Nat.le_of_ble_eq_true rfl) ⟨Nat.zero_le _, Nat.zero_le _⟩ (fun _ => ?_)
    refine g_istore (q0 := 26) (j := 4) (lv2 := [_, _, _, _, _]) rfl dX11_parentRenamed_24 (by decide) rfl rfl ?_
    refine g_aload_n (q0 := 27) (j := 0) rfl dX11_parentRenamed_26 rfl ?_
    refine g_getp (q0 := 30) (b := 440) rfl ff_X11_62 dX11_parentRenamed_27 rfl hOK (by decide) (sh_0 hOK) rfl (by decide) ?_
    refine g_aload_n (q0 := 31) (j := 0) rfl dX11_parentRenamed_30 rfl ?_
    refine g_getp (q0 := 34) (b := 4) rfl ff_X11_27 dX11_parentRenamed_31 rfl hOK (by decide) (sh_0 hOK) rfl (by decide) ?_
    refine g_iload (q0 := 36) (j := 4) rfl dX11_parentRenamed_34 rfl ?_
    obtain ⟨v36, e36, h⟩ := h
    refine g_callVp (as := [_]) (rest := [_]) mt_X1_tree mi_X1_tree se_X1_tree ml_X11_155 dX11_parentRenamed_36 (q0 := 39) rfl rfl (sh_4 hOK) rfl rfl e36 rfl ⟨by decide, by decide⟩ (Nat.le_of_ble_eq_true rfl) ⟨Nat.zero_le _, Nat.zero_le _⟩ (fun _ => ?_)
    refine g_aload_n (q0 := 40) (j := 0) rfl dX11_parentRenamed_39 rfl ?_
    refine g_getp (q0 := 43) (b := 4) rfl ff_X11_27 dX11_parentRenamed_40 rfl hOK (by decide) (sh_0 hOK) rfl (by decide) ?_
    refine g_iload_n (q0 := 44) (j := 1) rfl dX11_parentRenamed_43 rfl ?_
    obtain ⟨v44, e44, h⟩ := h
    refine g_callVp (as := [_]) (rest := [_, _]) mt_X1_tree mi_X1_tree se_X1_tree ml_X11_155 dX11_parentRenamed_44 (q0 := 47) rfl rfl (sh_4 hOK) rfl rfl e44 rfl ⟨by decide, by decide⟩ (Nat.le_of_ble_eq_true rfl) ⟨Nat.zero_le _, Nat.zero_le _⟩ (fun _ => ?_)
    obtain ⟨P47, e47, h⟩ := h
    refine g_callVm (as := [_, _]) (rest := []) mt_X0_measure mi_X0_measure se_X0_measure ml_X11_274 dX11_parentRenamed_47 (q0 := 50) rfl rfl (sh_440 hOK) rfl rfl e47 rfl ⟨by decide, by decide⟩ (Nat.le_of_ble_eq_true rfl) ⟨Nat.zero_le _, Nat.zero_le _⟩ (fun r47 M47 hP47 hw47 hMw47 => ?_)
    obtain ⟨hr47, hOK2, h⟩ := h r47 M47 hP47
    subst hr47
    refine g_aload_n (q0 := 51) (j := 0) rfl dX11_parentRenamed_50 rfl ?_
    refine g_getp (q0 := 54) (b := 440) rfl ff_X11_62 dX11_parentRenamed_51 rfl hOK2 (by decide) (sh_0 hOK2) rfl (by decide) ?_
    obtain ⟨P54, e54, h⟩ := h
    refine g_callVm (as := []) (rest := []) mt_X0_pairUp mi_X0_pairUp se_X0_pairUp ml_X11_565 dX11_parentRenamed_54 (q0 := 57) rfl rfl (sh_440 hOK2) rfl rfl e54 rfl ⟨by decide, by decide⟩ (Nat.le_of_ble_eq_true rfl) ⟨Nat.zero_le _, Nat.zero_le _⟩ (fun r54 M54 hP54 hw54 hMw54 => ?_)
    obtain ⟨hr54, hOK3, h⟩ := h r54 M54 hP54
    subst hr54
    refine g_aload_n (q0 := 58) (j := 0) rfl dX11_parentRenamed_57 rfl ?_
    refine g_getp (q0 := 61) (b := 440) rfl ff_X11_62 dX11_parentRenamed_58 rfl hOK3 (by decide) (sh_0 hOK3) rfl (by decide) ?_
    refine g_iload_n (q0 := 62) (j := 2) rfl dX11_parentRenamed_61 rfl ?_
    obtain ⟨v62, e62, h⟩ := h
    refine g_callVp (as := [_]) (rest := []) mt_X0_pairedWith mi_X0_pairedWith se_X0_pairedWith ml_X11_609 dX11_parentRenamed_62 (q0 := 65) rfl rfl (sh_440 hOK3) rfl rfl e62 rfl ⟨by decide, by decide⟩ (Nat.le_of_ble_eq_true rfl) ⟨Nat.zero_le _, Nat.zero_le _⟩ (fun _ => ?_)
    refine g_if_lt (q0 := 68) (tgt := 71) rfl dX11_parentRenamed_65 (by decide) (fun h65 => ?_) (fun h65 => ?_)
    · replace h := wI_pos h65 h
      refine g_iincw (q0 := 74) (lv2 := [_, _, _, _, _]) rfl dX11_parentRenamed_71 rfl (by decide) rfl rfl ?_
      refine g_goto (tgt := 2) dX11_parentRenamed_74 (by decide) ?_
      refine gA_jk (lv1 := [_, _, _, _, (9, 0)]) ⟨.inl rfl, .inl rfl, .inl rfl, .inl rfl, .inr rfl, trivial⟩ ?_
      exact h
    · replace h := wI_neg (Int.not_lt.mpr h65) h
      refine g_iload (q0 := 70) (j := 4) rfl dX11_parentRenamed_68 rfl ?_
      exact g_ireturn dX11_parentRenamed_70 rfl ⟨Nat.zero_le _, Nat.zero_le _⟩ h
theorem w_X11_parentRenamed {sh : gS} {Q : Option gV → gS → gM → Prop} {a1 a2 : Int} {M : gM} (hOK : gOK sh M) (h : (P_X11_parentRenamed_2 sh Q a1 a2 0 M)) : gC (gr 4 95) yX11_parentRenamed cX11_parentRenamed 5 (some (.int)) [(4, 0), (0, a1), (0, a2)] sh M Q := by
  refine gC_ofA (lv := [_, _, _, _, _]) (by decide +kernel) (Nat.le_of_ble_eq_true rfl) rfl (fun hMw hav => ?_)
  refine g_iconst (q0 := 1) rfl dX11_parentRenamed_0 (k := ?_)
  refine g_istore_n (q0 := 2) (j := 3) (lv2 := [_, _, _, _, _]) rfl dX11_parentRenamed_1 (by decide) rfl rfl ?_
  exact h
-- ==== X11_keep
theorem dX11_keep_0 : decode cX11_keep 0 = .ok (.aload_n 0, 1) := by decide +kernel
theorem dX11_keep_1 : decode cX11_keep 1 = .ok (.aload_n 0, 1) := by decide +kernel
theorem dX11_keep_2 : decode cX11_keep 2 = .ok (.getfield 27, 3) := by decide +kernel
theorem dX11_keep_5 : decode cX11_keep 5 = .ok (.getfield 135, 3) := by decide +kernel
theorem dX11_keep_8 : decode cX11_keep 8 = .ok (.putfield 98, 3) := by decide +kernel
theorem dX11_keep_11 : decode cX11_keep 11 = .ok (.iconst 0, 1) := by decide +kernel
theorem dX11_keep_12 : decode cX11_keep 12 = .ok (.istore_n 1, 1) := by decide +kernel
theorem dX11_keep_13 : decode cX11_keep 13 = .ok (.iload_n 1, 1) := by decide +kernel
theorem dX11_keep_14 : decode cX11_keep 14 = .ok (.iconst 4, 1) := by decide +kernel
theorem dX11_keep_15 : decode cX11_keep 15 = .ok (.if_icmp .ge 24, 3) := by decide +kernel
theorem dX11_keep_18 : decode cX11_keep 18 = .ok (.aload_n 0, 1) := by decide +kernel
theorem dX11_keep_19 : decode cX11_keep 19 = .ok (.getfield 92, 3) := by decide +kernel
theorem dX11_keep_22 : decode cX11_keep 22 = .ok (.iload_n 1, 1) := by decide +kernel
theorem dX11_keep_23 : decode cX11_keep 23 = .ok (.aaload, 1) := by decide +kernel
theorem dX11_keep_24 : decode cX11_keep 24 = .ok (.aload_n 0, 1) := by decide +kernel
theorem dX11_keep_25 : decode cX11_keep 25 = .ok (.getfield 37, 3) := by decide +kernel
theorem dX11_keep_28 : decode cX11_keep 28 = .ok (.iload_n 1, 1) := by decide +kernel
theorem dX11_keep_29 : decode cX11_keep 29 = .ok (.aaload, 1) := by decide +kernel
theorem dX11_keep_30 : decode cX11_keep 30 = .ok (.invokevirtual 224, 3) := by decide +kernel
theorem dX11_keep_33 : decode cX11_keep 33 = .ok (.iinc 1 1, 3) := by decide +kernel
theorem dX11_keep_36 : decode cX11_keep 36 = .ok (.goto (-23), 3) := by decide +kernel
theorem dX11_keep_39 : decode cX11_keep 39 = .ok (.iconst 0, 1) := by decide +kernel
theorem dX11_keep_40 : decode cX11_keep 40 = .ok (.istore_n 1, 1) := by decide +kernel
theorem dX11_keep_41 : decode cX11_keep 41 = .ok (.iload_n 1, 1) := by decide +kernel
theorem dX11_keep_42 : decode cX11_keep 42 = .ok (.iconst 4, 1) := by decide +kernel
theorem dX11_keep_43 : decode cX11_keep 43 = .ok (.if_icmp .ge 24, 3) := by decide +kernel
theorem dX11_keep_46 : decode cX11_keep 46 = .ok (.aload_n 0, 1) := by decide +kernel
theorem dX11_keep_47 : decode cX11_keep 47 = .ok (.getfield 95, 3) := by decide +kernel
theorem dX11_keep_50 : decode cX11_keep 50 = .ok (.iload_n 1, 1) := by decide +kernel
theorem dX11_keep_51 : decode cX11_keep 51 = .ok (.aaload, 1) := by decide +kernel
theorem dX11_keep_52 : decode cX11_keep 52 = .ok (.aload_n 0, 1) := by decide +kernel
theorem dX11_keep_53 : decode cX11_keep 53 = .ok (.getfield 43, 3) := by decide +kernel
theorem dX11_keep_56 : decode cX11_keep 56 = .ok (.iload_n 1, 1) := by decide +kernel
theorem dX11_keep_57 : decode cX11_keep 57 = .ok (.aaload, 1) := by decide +kernel
theorem dX11_keep_58 : decode cX11_keep 58 = .ok (.invokevirtual 145, 3) := by decide +kernel
theorem dX11_keep_61 : decode cX11_keep 61 = .ok (.iinc 1 1, 3) := by decide +kernel
theorem dX11_keep_64 : decode cX11_keep 64 = .ok (.goto (-23), 3) := by decide +kernel
theorem dX11_keep_67 : decode cX11_keep 67 = .ok (.aload_n 0, 1) := by decide +kernel
theorem dX11_keep_68 : decode cX11_keep 68 = .ok (.getfield 98, 3) := by decide +kernel
theorem dX11_keep_71 : decode cX11_keep 71 = .ok (.ireturn, 1) := by decide +kernel
def P_X11_keep_13 (sh : gS) (Q : Option gV → gS → gM → Prop) (x1 : Int) (M : gM) : Prop := gA (gr 3 111) yX11_keep cX11_keep 2 (some (.int)) Q (0, 0) 13 [(4, 0), (0, x1)] [] sh M
def P_X11_keep_41 (sh : gS) (Q : Option gV → gS → gM → Prop) (x1 : Int) (M : gM) : Prop := gA (gr 3 111) yX11_keep cX11_keep 2 (some (.int)) Q (0, 0) 41 [(4, 0), (0, x1)] [] sh M
theorem w_X11_keep_13 {sh : gS} {Q : Option gV → gS → gM → Prop} {x1 : Int} {M : gM} (hOK : gOK sh M) (h : (if x1 < 4 then
    ((0 ≤ x1 ∧ x1 < 4) ∧
      ((gsh sh (484 + 10 * x1) = some (0, 8) ∧ (484 + 10 * x1) < 758) ∧
        (∃ P30 : Option gV → gM → Prop, gC (gr 1 23) yX7_copy cX7_copy 3 none [(4, (484 + 10 * x1)), (4, (479 + 10 * x1))] sh M (gPm sh P30) ∧ ∀ (r30 : Option gV) (M30 : gM), P30 r30 M30 → r30 = none ∧ gOK sh M30 ∧
          (P_X11_keep_13 sh Q (gw32 (x1 + 1)) M30))))
  else
    (P_X11_keep_41 sh Q 0 M))) : P_X11_keep_13 sh Q x1 M := by
  unfold P_X11_keep_13
  refine g_iload_n (q0 := 14) (j := 1) rfl dX11_keep_13 rfl ?_
  refine g_iconst (q0 := 15) rfl dX11_keep_14 (k := ?_)
  refine g_icmp_ge (q0 := 18) (tgt := 39) rfl dX11_keep_15 (by decide) (fun h15 => ?_) (fun h15 => ?_)
  · replace h := wI_neg (Int.not_lt.mpr h15) h
    refine g_iconst (q0 := 40) rfl dX11_keep_39 (k := ?_)
    refine g_istore_n (q0 := 41) (j := 1) (lv2 := [_, _]) rfl dX11_keep_40 (by decide) rfl rfl ?_
    exact h
  · replace h := wI_pos h15 h
    refine g_aload_n (q0 := 19) (j := 0) rfl dX11_keep_18 rfl ?_
    refine g_getp (q0 := 22) (b := 477) rfl ff_X11_92 dX11_keep_19 rfl hOK (by decide) (sh_0 hOK) rfl (by decide) ?_
    refine g_iload_n (q0 := 23) (j := 1) rfl dX11_keep_22 rfl ?_
    obtain ⟨g1, h⟩ := h
    refine g_aald (q0 := 24) (q := 1) rfl dX11_keep_23 (sh_477 hOK) rfl g1.1 g1.2 ?_
    rw [(hOK.2.2.2 _ g1.1 g1.2).2.1]
    refine g_aload_n (q0 := 25) (j := 0) rfl dX11_keep_24 rfl ?_
    refine g_getp (q0 := 28) (b := 408) rfl ff_X11_37 dX11_keep_25 rfl hOK (by decide) (sh_0 hOK) rfl (by decide) ?_
    refine g_iload_n (q0 := 29) (j := 1) rfl dX11_keep_28 rfl ?_
    refine g_aald (q0 := 30) (q := 1) rfl dX11_keep_29 (sh_408 hOK) rfl g1.1 g1.2 ?_
    rw [(hOK.2.2.2 _ g1.1 g1.2).1]
    obtain ⟨g2, h⟩ := h
    obtain ⟨P30, e30, h⟩ := h
    refine g_callVm (as := [_]) (rest := []) mt_X7_copy mi_X7_copy se_X7_copy ml_X11_224 dX11_keep_30 (q0 := 33) rfl rfl g2.1 rfl rfl e30 rfl ⟨by decide, by decide⟩ (Nat.le_of_ble_eq_true rfl) ⟨Nat.zero_le _, Nat.zero_le _⟩ (fun r30 M30 hP30 hw30 hMw30 => ?_)
    obtain ⟨hr30, hOK3, h⟩ := h r30 M30 hP30
    subst hr30
    refine g_iincw (q0 := 36) (lv2 := [_, _]) rfl dX11_keep_33 rfl (by decide) rfl rfl ?_
    refine g_goto (tgt := 13) dX11_keep_36 (by decide) ?_
    exact h
theorem w_X11_keep_41 {sh : gS} {Q : Option gV → gS → gM → Prop} {x1 : Int} {M : gM} (hOK : gOK sh M) (h : (if x1 < 4 then
    ((0 ≤ x1 ∧ x1 < 4) ∧
      ((gsh sh (543 + 48 * x1) = some (0, 6) ∧ (543 + 48 * x1) < 758) ∧
        (∃ P58 : Option gV → gM → Prop, gC (gr 2 90) yX5_copy cX5_copy 2 none [(4, (543 + 48 * x1)), (4, (519 + 48 * x1))] sh M (gPm sh P58) ∧ ∀ (r58 : Option gV) (M58 : gM), P58 r58 M58 → r58 = none ∧ gOK sh M58 ∧
          (P_X11_keep_41 sh Q (gw32 (x1 + 1)) M58))))
  else
    (Q (some (0, (M 0 16))) sh M))) : P_X11_keep_41 sh Q x1 M := by
  unfold P_X11_keep_41
  refine g_iload_n (q0 := 42) (j := 1) rfl dX11_keep_41 rfl ?_
  refine g_iconst (q0 := 43) rfl dX11_keep_42 (k := ?_)
  refine g_icmp_ge (q0 := 46) (tgt := 67) rfl dX11_keep_43 (by decide) (fun h43 => ?_) (fun h43 => ?_)
  · replace h := wI_neg (Int.not_lt.mpr h43) h
    refine g_aload_n (q0 := 68) (j := 0) rfl dX11_keep_67 rfl ?_
    refine g_getf (q0 := 71) (t := 0) (fi := 16) rfl rfl ff_X11_98 dX11_keep_68 rfl (sh_0 hOK) ?_
    exact g_ireturn dX11_keep_71 rfl ⟨Nat.zero_le _, Nat.zero_le _⟩ h
  · replace h := wI_pos h43 h
    refine g_aload_n (q0 := 47) (j := 0) rfl dX11_keep_46 rfl ?_
    refine g_getp (q0 := 50) (b := 478) rfl ff_X11_95 dX11_keep_47 rfl hOK (by decide) (sh_0 hOK) rfl (by decide) ?_
    refine g_iload_n (q0 := 51) (j := 1) rfl dX11_keep_50 rfl ?_
    obtain ⟨g4, h⟩ := h
    refine g_aald (q0 := 52) (q := 2) rfl dX11_keep_51 (sh_478 hOK) rfl g4.1 g4.2 ?_
    rw [(hOK.2.2.2 _ g4.1 g4.2).2.2.2]
    refine g_aload_n (q0 := 53) (j := 0) rfl dX11_keep_52 rfl ?_
    refine g_getp (q0 := 56) (b := 409) rfl ff_X11_43 dX11_keep_53 rfl hOK (by decide) (sh_0 hOK) rfl (by decide) ?_
    refine g_iload_n (q0 := 57) (j := 1) rfl dX11_keep_56 rfl ?_
    refine g_aald (q0 := 58) (q := 2) rfl dX11_keep_57 (sh_409 hOK) rfl g4.1 g4.2 ?_
    rw [(hOK.2.2.2 _ g4.1 g4.2).2.2.1]
    obtain ⟨g5, h⟩ := h
    obtain ⟨P58, e58, h⟩ := h
    refine g_callVm (as := [_]) (rest := []) mt_X5_copy mi_X5_copy se_X5_copy ml_X11_145 dX11_keep_58 (q0 := 61) rfl rfl g5.1 rfl rfl e58 rfl ⟨by decide, by decide⟩ (Nat.le_of_ble_eq_true rfl) ⟨Nat.zero_le _, Nat.zero_le _⟩ (fun r58 M58 hP58 hw58 hMw58 => ?_)
    obtain ⟨hr58, hOK6, h⟩ := h r58 M58 hP58
    subst hr58
    refine g_iincw (q0 := 64) (lv2 := [_, _]) rfl dX11_keep_61 rfl (by decide) rfl rfl ?_
    refine g_goto (tgt := 41) dX11_keep_64 (by decide) ?_
    exact h
theorem w_X11_keep {sh : gS} {Q : Option gV → gS → gM → Prop} {M : gM} (hOK : gOK sh M) (h : (P_X11_keep_13 sh Q 0 (gU M 0 16 (M 4 0)))) : gC (gr 3 111) yX11_keep cX11_keep 2 (some (.int)) [(4, 0)] sh M Q := by
  refine gC_ofA (lv := [_, _]) (by decide +kernel) (Nat.le_of_ble_eq_true rfl) rfl (fun hMw hav => ?_)
  refine g_aload_n (q0 := 1) (j := 0) rfl dX11_keep_0 rfl ?_
  refine g_aload_n (q0 := 2) (j := 0) rfl dX11_keep_1 rfl ?_
  refine g_getp (q0 := 5) (b := 4) rfl ff_X11_27 dX11_keep_2 rfl hOK (by decide) (sh_0 hOK) rfl (by decide) ?_
  refine g_getf (q0 := 8) (t := 0) (fi := 0) rfl rfl ff_X11_135 dX11_keep_5 rfl (sh_4 hOK) ?_
  refine g_put (q0 := 11) (t := 0) (fi := 16) rfl rfl ff_X11_98 dX11_keep_8 rfl (sh_0 hOK) rfl (fun _ => ⟨rfl, rfl⟩) ?_
  have hOK7 : gOK sh (gU M 0 16 (M 4 0)) := gOK_o hOK (sh_0 hOK) (f := 16) rfl rfl
  refine g_iconst (q0 := 12) rfl dX11_keep_11 (k := ?_)
  refine g_istore_n (q0 := 13) (j := 1) (lv2 := [_, _]) rfl dX11_keep_12 (by decide) rfl rfl ?_
  exact h
-- ==== X11_undo
theorem dX11_undo_0 : decode cX11_undo 0 = .ok (.aload_n 0, 1) := by decide +kernel
theorem dX11_undo_1 : decode cX11_undo 1 = .ok (.getfield 98, 3) := by decide +kernel
theorem dX11_undo_4 : decode cX11_undo 4 = .ok (.ifCond .ge 5, 3) := by decide +kernel
theorem dX11_undo_7 : decode cX11_undo 7 = .ok (.iconst 0, 1) := by decide +kernel
theorem dX11_undo_8 : decode cX11_undo 8 = .ok (.ireturn, 1) := by decide +kernel
theorem dX11_undo_9 : decode cX11_undo 9 = .ok (.aload_n 0, 1) := by decide +kernel
theorem dX11_undo_10 : decode cX11_undo 10 = .ok (.getfield 27, 3) := by decide +kernel
theorem dX11_undo_13 : decode cX11_undo 13 = .ok (.aload_n 0, 1) := by decide +kernel
theorem dX11_undo_14 : decode cX11_undo 14 = .ok (.getfield 98, 3) := by decide +kernel
theorem dX11_undo_17 : decode cX11_undo 17 = .ok (.putfield 135, 3) := by decide +kernel
theorem dX11_undo_20 : decode cX11_undo 20 = .ok (.iconst 0, 1) := by decide +kernel
theorem dX11_undo_21 : decode cX11_undo 21 = .ok (.istore_n 1, 1) := by decide +kernel
theorem dX11_undo_22 : decode cX11_undo 22 = .ok (.iload_n 1, 1) := by decide +kernel
theorem dX11_undo_23 : decode cX11_undo 23 = .ok (.iconst 4, 1) := by decide +kernel
theorem dX11_undo_24 : decode cX11_undo 24 = .ok (.if_icmp .ge 24, 3) := by decide +kernel
theorem dX11_undo_27 : decode cX11_undo 27 = .ok (.aload_n 0, 1) := by decide +kernel
theorem dX11_undo_28 : decode cX11_undo 28 = .ok (.getfield 37, 3) := by decide +kernel
theorem dX11_undo_31 : decode cX11_undo 31 = .ok (.iload_n 1, 1) := by decide +kernel
theorem dX11_undo_32 : decode cX11_undo 32 = .ok (.aaload, 1) := by decide +kernel
theorem dX11_undo_33 : decode cX11_undo 33 = .ok (.aload_n 0, 1) := by decide +kernel
theorem dX11_undo_34 : decode cX11_undo 34 = .ok (.getfield 92, 3) := by decide +kernel
theorem dX11_undo_37 : decode cX11_undo 37 = .ok (.iload_n 1, 1) := by decide +kernel
theorem dX11_undo_38 : decode cX11_undo 38 = .ok (.aaload, 1) := by decide +kernel
theorem dX11_undo_39 : decode cX11_undo 39 = .ok (.invokevirtual 224, 3) := by decide +kernel
theorem dX11_undo_42 : decode cX11_undo 42 = .ok (.iinc 1 1, 3) := by decide +kernel
theorem dX11_undo_45 : decode cX11_undo 45 = .ok (.goto (-23), 3) := by decide +kernel
theorem dX11_undo_48 : decode cX11_undo 48 = .ok (.iconst 0, 1) := by decide +kernel
theorem dX11_undo_49 : decode cX11_undo 49 = .ok (.istore_n 1, 1) := by decide +kernel
theorem dX11_undo_50 : decode cX11_undo 50 = .ok (.iload_n 1, 1) := by decide +kernel
theorem dX11_undo_51 : decode cX11_undo 51 = .ok (.iconst 4, 1) := by decide +kernel
theorem dX11_undo_52 : decode cX11_undo 52 = .ok (.if_icmp .ge 24, 3) := by decide +kernel
theorem dX11_undo_55 : decode cX11_undo 55 = .ok (.aload_n 0, 1) := by decide +kernel
theorem dX11_undo_56 : decode cX11_undo 56 = .ok (.getfield 43, 3) := by decide +kernel
theorem dX11_undo_59 : decode cX11_undo 59 = .ok (.iload_n 1, 1) := by decide +kernel
theorem dX11_undo_60 : decode cX11_undo 60 = .ok (.aaload, 1) := by decide +kernel
theorem dX11_undo_61 : decode cX11_undo 61 = .ok (.aload_n 0, 1) := by decide +kernel
theorem dX11_undo_62 : decode cX11_undo 62 = .ok (.getfield 95, 3) := by decide +kernel
theorem dX11_undo_65 : decode cX11_undo 65 = .ok (.iload_n 1, 1) := by decide +kernel
theorem dX11_undo_66 : decode cX11_undo 66 = .ok (.aaload, 1) := by decide +kernel
theorem dX11_undo_67 : decode cX11_undo 67 = .ok (.invokevirtual 145, 3) := by decide +kernel
theorem dX11_undo_70 : decode cX11_undo 70 = .ok (.iinc 1 1, 3) := by decide +kernel
theorem dX11_undo_73 : decode cX11_undo 73 = .ok (.goto (-23), 3) := by decide +kernel
theorem dX11_undo_76 : decode cX11_undo 76 = .ok (.iconst 1, 1) := by decide +kernel
theorem dX11_undo_77 : decode cX11_undo 77 = .ok (.ireturn, 1) := by decide +kernel
def P_X11_undo_22 (sh : gS) (Q : Option gV → gS → gM → Prop) (x1 : Int) (M : gM) : Prop := gA (gr 3 111) yX11_undo cX11_undo 2 (some (.boolean)) Q (0, 0) 22 [(4, 0), (0, x1)] [] sh M
def P_X11_undo_50 (sh : gS) (Q : Option gV → gS → gM → Prop) (x1 : Int) (M : gM) : Prop := gA (gr 3 111) yX11_undo cX11_undo 2 (some (.boolean)) Q (0, 0) 50 [(4, 0), (0, x1)] [] sh M
theorem w_X11_undo_22 {sh : gS} {Q : Option gV → gS → gM → Prop} {x1 : Int} {M : gM} (hOK : gOK sh M) (h : (if x1 < 4 then
    ((0 ≤ x1 ∧ x1 < 4) ∧
      ((gsh sh (479 + 10 * x1) = some (0, 8) ∧ (479 + 10 * x1) < 758) ∧
        (∃ P39 : Option gV → gM → Prop, gC (gr 1 23) yX7_copy cX7_copy 3 none [(4, (479 + 10 * x1)), (4, (484 + 10 * x1))] sh M (gPm sh P39) ∧ ∀ (r39 : Option gV) (M39 : gM), P39 r39 M39 → r39 = none ∧ gOK sh M39 ∧
          (P_X11_undo_22 sh Q (gw32 (x1 + 1)) M39))))
  else
    (P_X11_undo_50 sh Q 0 M))) : P_X11_undo_22 sh Q x1 M := by
  unfold P_X11_undo_22
  refine g_iload_n (q0 := 23) (j := 1) rfl dX11_undo_22 rfl ?_
  refine g_iconst (q0 := 24) rfl dX11_undo_23 (k := ?_)
  refine g_icmp_ge (q0 := 27) (tgt := 48) rfl dX11_undo_24 (by decide) (fun h24 => ?_) (fun h24 => ?_)
  · replace h := wI_neg (Int.not_lt.mpr h24) h
    refine g_iconst (q0 := 49) rfl dX11_undo_48 (k := ?_)
    refine g_istore_n (q0 := 50) (j := 1) (lv2 := [_, _]) rfl dX11_undo_49 (by decide) rfl rfl ?_
    exact h
  · replace h := wI_pos h24 h
    refine g_aload_n (q0 := 28) (j := 0) rfl dX11_undo_27 rfl ?_
    refine g_getp (q0 := 31) (b := 408) rfl ff_X11_37 dX11_undo_28 rfl hOK (by decide) (sh_0 hOK) rfl (by decide) ?_
    refine g_iload_n (q0 := 32) (j := 1) rfl dX11_undo_31 rfl ?_
    obtain ⟨g1, h⟩ := h
    refine g_aald (q0 := 33) (q := 1) rfl dX11_undo_32 (sh_408 hOK) rfl g1.1 g1.2 ?_
    rw [(hOK.2.2.2 _ g1.1 g1.2).1]
    refine g_aload_n (q0 := 34) (j := 0) rfl dX11_undo_33 rfl ?_
    refine g_getp (q0 := 37) (b := 477) rfl ff_X11_92 dX11_undo_34 rfl hOK (by decide) (sh_0 hOK) rfl (by decide) ?_
    refine g_iload_n (q0 := 38) (j := 1) rfl dX11_undo_37 rfl ?_
    refine g_aald (q0 := 39) (q := 1) rfl dX11_undo_38 (sh_477 hOK) rfl g1.1 g1.2 ?_
    rw [(hOK.2.2.2 _ g1.1 g1.2).2.1]
    obtain ⟨g2, h⟩ := h
    obtain ⟨P39, e39, h⟩ := h
    refine g_callVm (as := [_]) (rest := []) mt_X7_copy mi_X7_copy se_X7_copy ml_X11_224 dX11_undo_39 (q0 := 42) rfl rfl g2.1 rfl rfl e39 rfl ⟨by decide, by decide⟩ (Nat.le_of_ble_eq_true rfl) ⟨Nat.zero_le _, Nat.zero_le _⟩ (fun r39 M39 hP39 hw39 hMw39 => ?_)
    obtain ⟨hr39, hOK3, h⟩ := h r39 M39 hP39
    subst hr39
    refine g_iincw (q0 := 45) (lv2 := [_, _]) rfl dX11_undo_42 rfl (by decide) rfl rfl ?_
    refine g_goto (tgt := 22) dX11_undo_45 (by decide) ?_
    exact h
theorem w_X11_undo_50 {sh : gS} {Q : Option gV → gS → gM → Prop} {x1 : Int} {M : gM} (hOK : gOK sh M) (h : (if x1 < 4 then
    ((0 ≤ x1 ∧ x1 < 4) ∧
      ((gsh sh (519 + 48 * x1) = some (0, 6) ∧ (519 + 48 * x1) < 758) ∧
        (∃ P67 : Option gV → gM → Prop, gC (gr 2 90) yX5_copy cX5_copy 2 none [(4, (519 + 48 * x1)), (4, (543 + 48 * x1))] sh M (gPm sh P67) ∧ ∀ (r67 : Option gV) (M67 : gM), P67 r67 M67 → r67 = none ∧ gOK sh M67 ∧
          (P_X11_undo_50 sh Q (gw32 (x1 + 1)) M67))))
  else
    (Q (some (0, 1)) sh M))) : P_X11_undo_50 sh Q x1 M := by
  unfold P_X11_undo_50
  refine g_iload_n (q0 := 51) (j := 1) rfl dX11_undo_50 rfl ?_
  refine g_iconst (q0 := 52) rfl dX11_undo_51 (k := ?_)
  refine g_icmp_ge (q0 := 55) (tgt := 76) rfl dX11_undo_52 (by decide) (fun h52 => ?_) (fun h52 => ?_)
  · replace h := wI_neg (Int.not_lt.mpr h52) h
    refine g_iconst (q0 := 77) rfl dX11_undo_76 (k := ?_)
    exact g_zreturn dX11_undo_77 rfl (gnz (Or.inr rfl)) ⟨Nat.zero_le _, Nat.zero_le _⟩ h
  · replace h := wI_pos h52 h
    refine g_aload_n (q0 := 56) (j := 0) rfl dX11_undo_55 rfl ?_
    refine g_getp (q0 := 59) (b := 409) rfl ff_X11_43 dX11_undo_56 rfl hOK (by decide) (sh_0 hOK) rfl (by decide) ?_
    refine g_iload_n (q0 := 60) (j := 1) rfl dX11_undo_59 rfl ?_
    obtain ⟨g4, h⟩ := h
    refine g_aald (q0 := 61) (q := 2) rfl dX11_undo_60 (sh_409 hOK) rfl g4.1 g4.2 ?_
    rw [(hOK.2.2.2 _ g4.1 g4.2).2.2.1]
    refine g_aload_n (q0 := 62) (j := 0) rfl dX11_undo_61 rfl ?_
    refine g_getp (q0 := 65) (b := 478) rfl ff_X11_95 dX11_undo_62 rfl hOK (by decide) (sh_0 hOK) rfl (by decide) ?_
    refine g_iload_n (q0 := 66) (j := 1) rfl dX11_undo_65 rfl ?_
    refine g_aald (q0 := 67) (q := 2) rfl dX11_undo_66 (sh_478 hOK) rfl g4.1 g4.2 ?_
    rw [(hOK.2.2.2 _ g4.1 g4.2).2.2.2]
    obtain ⟨g5, h⟩ := h
    obtain ⟨P67, e67, h⟩ := h
    refine g_callVm (as := [_]) (rest := []) mt_X5_copy mi_X5_copy se_X5_copy ml_X11_145 dX11_undo_67 (q0 := 70) rfl rfl g5.1 rfl rfl e67 rfl ⟨by decide, by decide⟩ (Nat.le_of_ble_eq_true rfl) ⟨Nat.zero_le _, Nat.zero_le _⟩ (fun r67 M67 hP67 hw67 hMw67 => ?_)
    obtain ⟨hr67, hOK6, h⟩ := h r67 M67 hP67
    subst hr67
    refine g_iincw (q0 := 73) (lv2 := [_, _]) rfl dX11_undo_70 rfl (by decide) rfl rfl ?_
    refine g_goto (tgt := 50) dX11_undo_73 (by decide) ?_
    exact h
theorem w_X11_undo {sh : gS} {Q : Option gV → gS → gM → Prop} {M : gM} (hOK : gOK sh M) (h : (if (M 0 16) < 0 then
    (Q (some (0, 0)) sh M)
  else
    (P_X11_undo_22 sh Q 0 (gU M 4 0 (M 0 16))))) : gC (gr 3 111) yX11_undo cX11_undo 2 (some (.boolean)) [(4, 0)] sh M Q := by
  refine gC_ofA (lv := [_, _]) (by decide +kernel) (Nat.le_of_ble_eq_true rfl) rfl (fun hMw hav => ?_)
  refine g_aload_n (q0 := 1) (j := 0) rfl dX11_undo_0 rfl ?_
  refine g_getf (q0 := 4) (t := 0) (fi := 16) rfl rfl ff_X11_98 dX11_undo_1 rfl (sh_0 hOK) ?_
  refine g_if_ge (q0 := 7) (tgt := 9) rfl dX11_undo_4 (by decide) (fun h4 => ?_) (fun h4 => ?_)
  · replace h := wI_neg (Int.not_lt.mpr h4) h
    refine g_aload_n (q0 := 10) (j := 0) rfl dX11_undo_9 rfl ?_
    refine g_getp (q0 := 13) (b := 4) rfl ff_X11_27 dX11_undo_10 rfl hOK (by decide) (sh_0 hOK) rfl (by decide) ?_
    refine g_aload_n (q0 := 14) (j := 0) rfl dX11_undo_13 rfl ?_
    refine g_getf (q0 := 17) (t := 0) (fi := 16) rfl rfl ff_X11_98 dX11_undo_14 rfl (sh_0 hOK) ?_
    refine g_put (q0 := 20) (t := 0) (fi := 0) rfl rfl ff_X11_135 dX11_undo_17 rfl (sh_4 hOK) rfl (fun _ => ⟨rfl, rfl⟩) ?_
    have hOK7 : gOK sh (gU M 4 0 (M 0 16)) := gOK_o hOK (sh_4 hOK) (f := 0) rfl rfl
    refine g_iconst (q0 := 21) rfl dX11_undo_20 (k := ?_)
    refine g_istore_n (q0 := 22) (j := 1) (lv2 := [_, _]) rfl dX11_undo_21 (by decide) rfl rfl ?_
    exact h
  · replace h := wI_pos h4 h
    refine g_iconst (q0 := 8) rfl dX11_undo_7 (k := ?_)
    exact g_zreturn dX11_undo_8 rfl (gnz (Or.inl rfl)) ⟨Nat.zero_le _, Nat.zero_le _⟩ h
-- ==== X11_count
theorem dX11_count_0 : decode cX11_count 0 = .ok (.iconst 0, 1) := by decide +kernel
theorem dX11_count_1 : decode cX11_count 1 = .ok (.istore_n 2, 1) := by decide +kernel
theorem dX11_count_2 : decode cX11_count 2 = .ok (.iload_n 1, 1) := by decide +kernel
theorem dX11_count_3 : decode cX11_count 3 = .ok (.tableswitch 128 0 5 #[37, 45, 53, 61, 66, 101], 37) := by decide +kernel
theorem dX11_count_40 : decode cX11_count 40 = .ok (.aload_n 0, 1) := by decide +kernel
theorem dX11_count_41 : decode cX11_count 41 = .ok (.getfield 27, 3) := by decide +kernel
theorem dX11_count_44 : decode cX11_count 44 = .ok (.getfield 135, 3) := by decide +kernel
theorem dX11_count_47 : decode cX11_count 47 = .ok (.ireturn, 1) := by decide +kernel
theorem dX11_count_48 : decode cX11_count 48 = .ok (.aload_n 0, 1) := by decide +kernel
theorem dX11_count_49 : decode cX11_count 49 = .ok (.getfield 10, 3) := by decide +kernel
theorem dX11_count_52 : decode cX11_count 52 = .ok (.getfield 103, 3) := by decide +kernel
theorem dX11_count_55 : decode cX11_count 55 = .ok (.ireturn, 1) := by decide +kernel
theorem dX11_count_56 : decode cX11_count 56 = .ok (.aload_n 0, 1) := by decide +kernel
theorem dX11_count_57 : decode cX11_count 57 = .ok (.getfield 27, 3) := by decide +kernel
theorem dX11_count_60 : decode cX11_count 60 = .ok (.invokevirtual 612, 3) := by decide +kernel
theorem dX11_count_63 : decode cX11_count 63 = .ok (.ireturn, 1) := by decide +kernel
theorem dX11_count_64 : decode cX11_count 64 = .ok (.aload_n 0, 1) := by decide +kernel
theorem dX11_count_65 : decode cX11_count 65 = .ok (.invokevirtual 613, 3) := by decide +kernel
theorem dX11_count_68 : decode cX11_count 68 = .ok (.ireturn, 1) := by decide +kernel
theorem dX11_count_69 : decode cX11_count 69 = .ok (.iconst 0, 1) := by decide +kernel
theorem dX11_count_70 : decode cX11_count 70 = .ok (.istore_n 3, 1) := by decide +kernel
theorem dX11_count_71 : decode cX11_count 71 = .ok (.iload_n 3, 1) := by decide +kernel
theorem dX11_count_72 : decode cX11_count 72 = .ok (.iconst 4, 1) := by decide +kernel
theorem dX11_count_73 : decode cX11_count 73 = .ok (.if_icmp .ge 29, 3) := by decide +kernel
theorem dX11_count_76 : decode cX11_count 76 = .ok (.iload_n 2, 1) := by decide +kernel
theorem dX11_count_77 : decode cX11_count 77 = .ok (.aload_n 0, 1) := by decide +kernel
theorem dX11_count_78 : decode cX11_count 78 = .ok (.getfield 43, 3) := by decide +kernel
theorem dX11_count_81 : decode cX11_count 81 = .ok (.iload_n 3, 1) := by decide +kernel
theorem dX11_count_82 : decode cX11_count 82 = .ok (.aaload, 1) := by decide +kernel
theorem dX11_count_83 : decode cX11_count 83 = .ok (.getfield 189, 3) := by decide +kernel
theorem dX11_count_86 : decode cX11_count 86 = .ok (.ifCond .eq 7, 3) := by decide +kernel
theorem dX11_count_89 : decode cX11_count 89 = .ok (.iconst 1, 1) := by decide +kernel
theorem dX11_count_90 : decode cX11_count 90 = .ok (.goto 4, 3) := by decide +kernel
theorem dX11_count_93 : decode cX11_count 93 = .ok (.iconst 0, 1) := by decide +kernel
theorem dX11_count_94 : decode cX11_count 94 = .ok (.iadd, 1) := by decide +kernel
theorem dX11_count_95 : decode cX11_count 95 = .ok (.istore_n 2, 1) := by decide +kernel
theorem dX11_count_96 : decode cX11_count 96 = .ok (.iinc 3 1, 3) := by decide +kernel
theorem dX11_count_99 : decode cX11_count 99 = .ok (.goto (-28), 3) := by decide +kernel
theorem dX11_count_102 : decode cX11_count 102 = .ok (.iload_n 2, 1) := by decide +kernel
theorem dX11_count_103 : decode cX11_count 103 = .ok (.ireturn, 1) := by decide +kernel
theorem dX11_count_104 : decode cX11_count 104 = .ok (.iconst 0, 1) := by decide +kernel
theorem dX11_count_105 : decode cX11_count 105 = .ok (.istore_n 3, 1) := by decide +kernel
theorem dX11_count_106 : decode cX11_count 106 = .ok (.iload_n 3, 1) := by decide +kernel
theorem dX11_count_107 : decode cX11_count 107 = .ok (.iconst 4, 1) := by decide +kernel
theorem dX11_count_108 : decode cX11_count 108 = .ok (.if_icmp .ge 21, 3) := by decide +kernel
theorem dX11_count_111 : decode cX11_count 111 = .ok (.iload_n 2, 1) := by decide +kernel
theorem dX11_count_112 : decode cX11_count 112 = .ok (.aload_n 0, 1) := by decide +kernel
theorem dX11_count_113 : decode cX11_count 113 = .ok (.getfield 37, 3) := by decide +kernel
theorem dX11_count_116 : decode cX11_count 116 = .ok (.iload_n 3, 1) := by decide +kernel
theorem dX11_count_117 : decode cX11_count 117 = .ok (.aaload, 1) := by decide +kernel
theorem dX11_count_118 : decode cX11_count 118 = .ok (.getfield 180, 3) := by decide +kernel
theorem dX11_count_121 : decode cX11_count 121 = .ok (.iadd, 1) := by decide +kernel
theorem dX11_count_122 : decode cX11_count 122 = .ok (.istore_n 2, 1) := by decide +kernel
theorem dX11_count_123 : decode cX11_count 123 = .ok (.iinc 3 1, 3) := by decide +kernel
theorem dX11_count_126 : decode cX11_count 126 = .ok (.goto (-20), 3) := by decide +kernel
theorem dX11_count_129 : decode cX11_count 129 = .ok (.iload_n 2, 1) := by decide +kernel
theorem dX11_count_130 : decode cX11_count 130 = .ok (.ireturn, 1) := by decide +kernel
theorem dX11_count_131 : decode cX11_count 131 = .ok (.iconst (-1), 1) := by decide +kernel
theorem dX11_count_132 : decode cX11_count 132 = .ok (.ireturn, 1) := by decide +kernel
def P_X11_count_71 (sh : gS) (Q : Option gV → gS → gM → Prop) (x1 x2 x3 : Int) (M : gM) : Prop := gA (gr 2 47) yX11_count cX11_count 4 (some (.int)) Q (0, 0) 71 [(4, 0), (0, x1), (0, x2), (0, x3)] [] sh M
def P_X11_count_106 (sh : gS) (Q : Option gV → gS → gM → Prop) (x1 x2 x3 : Int) (M : gM) : Prop := gA (gr 2 47) yX11_count cX11_count 4 (some (.int)) Q (0, 0) 106 [(4, 0), (0, x1), (0, x2), (0, x3)] [] sh M
theorem w_X11_count_71 {sh : gS} {Q : Option gV → gS → gM → Prop} {x1 x2 x3 : Int} {M : gM} (hOK : gOK sh M) (h : (if x3 < 4 then
    ((0 ≤ x3 ∧ x3 < 4) ∧
      ((gsh sh (519 + 48 * x3) = some (0, 6) ∧ (519 + 48 * x3) < 758) ∧
        (if (M (519 + 48 * x3) 0) = 0 then
          (P_X11_count_71 sh Q x1 (gw32 (x2 + (0 : Int))) (gw32 (x3 + 1)) M)
        else
          (P_X11_count_71 sh Q x1 (gw32 (x2 + (1 : Int))) (gw32 (x3 + 1)) M))))
  else
    (Q (some (0, x2)) sh M))) : P_X11_count_71 sh Q x1 x2 x3 M := by
  unfold P_X11_count_71
  refine g_iload_n (q0 := 72) (j := 3) rfl dX11_count_71 rfl ?_
  refine g_iconst (q0 := 73) rfl dX11_count_72 (k := ?_)
  refine g_icmp_ge (q0 := 76) (tgt := 102) rfl dX11_count_73 (by decide) (fun h73 => ?_) (fun h73 => ?_)
  · replace h := wI_neg (Int.not_lt.mpr h73) h
    refine g_iload_n (q0 := 103) (j := 2) rfl dX11_count_102 rfl ?_
    exact g_ireturn dX11_count_103 rfl ⟨Nat.zero_le _, Nat.zero_le _⟩ h
  · replace h := wI_pos h73 h
    refine g_iload_n (q0 := 77) (j := 2) rfl dX11_count_76 rfl ?_
    refine g_aload_n (q0 := 78) (j := 0) rfl dX11_count_77 rfl ?_
    refine g_getp (q0 := 81) (b := 409) rfl ff_X11_43 dX11_count_78 rfl hOK (by decide) (sh_0 hOK) rfl (by decide) ?_
    refine g_iload_n (q0 := 82) (j := 3) rfl dX11_count_81 rfl ?_
    obtain ⟨g1, h⟩ := h
    refine g_aald (q0 := 83) (q := 2) rfl dX11_count_82 (sh_409 hOK) rfl g1.1 g1.2 ?_
    rw [(hOK.2.2.2 _ g1.1 g1.2).2.2.1]
    obtain ⟨g2, h⟩ := h
    refine g_getf (q0 := 86) (t := 0) (fi := 0) rfl rfl ff_X11_189 dX11_count_83 rfl g2.1 ?_
    refine g_if_eq (q0 := 89) (tgt := 93) rfl dX11_count_86 (by decide) (fun h86 => ?_) (fun h86 => ?_)
    · replace h := wI_pos h86 h
      refine g_iconst (q0 := 94) rfl dX11_count_93 (k := ?_)
      refine g_iaddw (q0 := 95) rfl dX11_count_94 ?_
      refine g_istore_n (q0 := 96) (j := 2) (lv2 := [_, _, _, _]) rfl dX11_count_95 (by decide) rfl rfl ?_
      refine g_iincw (q0 := 99) (lv2 := [_, _, _, _]) rfl dX11_count_96 rfl (by decide) rfl rfl ?_
      refine g_goto (tgt := 71) dX11_count_99 (by decide) ?_
      exact h
    · replace h := wI_neg h86 h
      refine g_iconst (q0 := 90) rfl dX11_count_89 (k := ?_)
      refine g_goto (tgt := 94) dX11_count_90 (by decide) ?_
      refine g_iaddw (q0 := 95) rfl dX11_count_94 ?_
      refine g_istore_n (q0 := 96) (j := 2) (lv2 := [_, _, _, _]) rfl dX11_count_95 (by decide) rfl rfl ?_
      refine g_iincw (q0 := 99) (lv2 := [_, _, _, _]) rfl dX11_count_96 rfl (by decide) rfl rfl ?_
      refine g_goto (tgt := 71) dX11_count_99 (by decide) ?_
      exact h
theorem w_X11_count_106 {sh : gS} {Q : Option gV → gS → gM → Prop} {x1 x2 x3 : Int} {M : gM} (hOK : gOK sh M) (h : (if x3 < 4 then
    ((0 ≤ x3 ∧ x3 < 4) ∧
      ((gsh sh (479 + 10 * x3) = some (0, 8) ∧ (479 + 10 * x3) < 758) ∧
        (P_X11_count_106 sh Q x1 (gw32 (x2 + (M (479 + 10 * x3) 0))) (gw32 (x3 + 1)) M)))
  else
    (Q (some (0, x2)) sh M))) : P_X11_count_106 sh Q x1 x2 x3 M := by
  unfold P_X11_count_106
  refine g_iload_n (q0 := 107) (j := 3) rfl dX11_count_106 rfl ?_
  refine g_iconst (q0 := 108) rfl dX11_count_107 (k := ?_)
  refine g_icmp_ge (q0 := 111) (tgt := 129) rfl dX11_count_108 (by decide) (fun h108 => ?_) (fun h108 => ?_)
  · replace h := wI_neg (Int.not_lt.mpr h108) h
    refine g_iload_n (q0 := 130) (j := 2) rfl dX11_count_129 rfl ?_
    exact g_ireturn dX11_count_130 rfl ⟨Nat.zero_le _, Nat.zero_le _⟩ h
  · replace h := wI_pos h108 h
    refine g_iload_n (q0 := 112) (j := 2) rfl dX11_count_111 rfl ?_
    refine g_aload_n (q0 := 113) (j := 0) rfl dX11_count_112 rfl ?_
    refine g_getp (q0 := 116) (b := 408) rfl ff_X11_37 dX11_count_113 rfl hOK (by decide) (sh_0 hOK) rfl (by decide) ?_
    refine g_iload_n (q0 := 117) (j := 3) rfl dX11_count_116 rfl ?_
    obtain ⟨g3, h⟩ := h
    refine g_aald (q0 := 118) (q := 1) rfl dX11_count_117 (sh_408 hOK) rfl g3.1 g3.2 ?_
    rw [(hOK.2.2.2 _ g3.1 g3.2).1]
    obtain ⟨g4, h⟩ := h
    refine g_getf (q0 := 121) (t := 0) (fi := 0) rfl rfl ff_X11_180 dX11_count_118 rfl g4.1 ?_
    refine g_iaddw (q0 := 122) rfl dX11_count_121 ?_
    refine g_istore_n (q0 := 123) (j := 2) (lv2 := [_, _, _, _]) rfl dX11_count_122 (by decide) rfl rfl ?_
    refine g_iincw (q0 := 126) (lv2 := [_, _, _, _]) rfl dX11_count_123 rfl (by decide) rfl rfl ?_
    refine g_goto (tgt := 106) dX11_count_126 (by decide) ?_
    exact h
theorem w_X11_count {sh : gS} {Q : Option gV → gS → gM → Prop} {a1 : Int} {M : gM} (hOK : gOK sh M) (h : (if a1 = 0 then
    (Q (some (0, (M 4 0))) sh M)
  else
    (if a1 = 1 then
      (Q (some (0, (M 1 1))) sh M)
    else
      (if a1 = 2 then
        (∃ v60 : Int, gC (gr 0 0) yX1_unlikeTrees cX1_unlikeTrees 3 (some (.int)) [(4, 4)] sh M (gPp sh M (0, v60)) ∧
          (Q (some (0, v60)) sh M))
      else
        (if a1 = 3 then
          (∃ P65 : Option gV → gM → Prop, gC (gr 1 23) yX11_unlikeContents cX11_unlikeContents 5 (some (.int)) [(4, 0)] sh M (gPm sh P65) ∧ ∀ (r65 : Option gV) (M65 : gM), P65 r65 M65 → ∃ v65 : Int, r65 = some (0, v65) ∧ gOK sh M65 ∧
            (Q (some (0, v65)) sh M65))
        else
          (if a1 = 4 then
            (P_X11_count_71 sh Q a1 0 0 M)
          else
            (if a1 = 5 then
              (P_X11_count_106 sh Q a1 0 0 M)
            else
              (Q (some (0, -1)) sh M)))))))) : gC (gr 2 47) yX11_count cX11_count 4 (some (.int)) [(4, 0), (0, a1)] sh M Q := by
  refine gC_ofA (lv := [_, _, _, _]) (by decide +kernel) (Nat.le_of_ble_eq_true rfl) rfl (fun hMw hav => ?_)
  refine g_iconst (q0 := 1) rfl dX11_count_0 (k := ?_)
  refine g_istore_n (q0 := 2) (j := 2) (lv2 := [_, _, _, _]) rfl dX11_count_1 (by decide) rfl rfl ?_
  refine g_iload_n (q0 := 3) (j := 1) rfl dX11_count_2 rfl ?_
  by_cases hs0 : a1 = 0
  · replace h := wI_pos hs0 h
    refine g_tabIn (off := 37) (tgt := 40) dX11_count_3 (by omega) (by omega) (by rw [hs0]; rfl) (by decide) ?_
    refine g_aload_n (q0 := 41) (j := 0) rfl dX11_count_40 rfl ?_
    refine g_getp (q0 := 44) (b := 4) rfl ff_X11_27 dX11_count_41 rfl hOK (by decide) (sh_0 hOK) rfl (by decide) ?_
    refine g_getf (q0 := 47) (t := 0) (fi := 0) rfl rfl ff_X11_135 dX11_count_44 rfl (sh_4 hOK) ?_
    exact g_ireturn dX11_count_47 rfl ⟨Nat.zero_le _, Nat.zero_le _⟩ h
  · replace h := wI_neg hs0 h
    by_cases hs1 : a1 = 1
    · replace h := wI_pos hs1 h
      refine g_tabIn (off := 45) (tgt := 48) dX11_count_3 (by omega) (by omega) (by rw [hs1]; rfl) (by decide) ?_
      refine g_aload_n (q0 := 49) (j := 0) rfl dX11_count_48 rfl ?_
      refine g_getp (q0 := 52) (b := 1) rfl ff_X11_10 dX11_count_49 rfl hOK (by decide) (sh_0 hOK) rfl (by decide) ?_
      refine g_getf (q0 := 55) (t := 0) (fi := 1) rfl rfl ff_X11_103 dX11_count_52 rfl (sh_1 hOK) ?_
      exact g_ireturn dX11_count_55 rfl ⟨Nat.zero_le _, Nat.zero_le _⟩ h
    · replace h := wI_neg hs1 h
      by_cases hs2 : a1 = 2
      · replace h := wI_pos hs2 h
        refine g_tabIn (off := 53) (tgt := 56) dX11_count_3 (by omega) (by omega) (by rw [hs2]; rfl) (by decide) ?_
        refine g_aload_n (q0 := 57) (j := 0) rfl dX11_count_56 rfl ?_
        refine g_getp (q0 := 60) (b := 4) rfl ff_X11_27 dX11_count_57 rfl hOK (by decide) (sh_0 hOK) rfl (by decide) ?_
        obtain ⟨v60, e60, h⟩ := h
        refine g_callVp (as := []) (rest := []) mt_X1_unlikeTrees mi_X1_unlikeTrees se_X1_unlikeTrees ml_X11_612 dX11_count_60 (q0 := 63) rfl rfl (sh_4 hOK) rfl rfl e60 rfl ⟨by decide, by decide⟩ (Nat.le_of_ble_eq_true rfl) ⟨Nat.zero_le _, Nat.zero_le _⟩ (fun _ => ?_)
        exact g_ireturn dX11_count_63 rfl ⟨Nat.zero_le _, Nat.zero_le _⟩ h
      · replace h := wI_neg hs2 h
        by_cases hs3 : a1 = 3
        · replace h := wI_pos hs3 h
          refine g_tabIn (off := 61) (tgt := 64) dX11_count_3 (by omega) (by omega) (by rw [hs3]; rfl) (by decide) ?_
          refine g_aload_n (q0 := 65) (j := 0) rfl dX11_count_64 rfl ?_
          obtain ⟨P65, e65, h⟩ := h
          refine g_callVm (as := []) (rest := []) mt_X11_unlikeContents mi_X11_unlikeContents se_X11_unlikeContents ml_X11_613 dX11_count_65 (q0 := 68) rfl rfl (sh_0 hOK) rfl rfl e65 rfl ⟨by decide, by decide⟩ (Nat.le_of_ble_eq_true rfl) ⟨Nat.zero_le _, Nat.zero_le _⟩ (fun r65 M65 hP65 hw65 hMw65 => ?_)
          obtain ⟨v65, hr65, hOK5, h⟩ := h r65 M65 hP65
          subst hr65
          exact g_ireturn dX11_count_68 rfl ⟨Nat.zero_le _, Nat.zero_le _⟩ h
        · replace h := wI_neg hs3 h
          by_cases hs4 : a1 = 4
          · replace h := wI_pos hs4 h
            refine g_tabIn (off := 66) (tgt := 69) dX11_count_3 (by omega) (by omega) (by rw [hs4]; rfl) (by decide) ?_
            refine g_iconst (q0 := 70) rfl dX11_count_69 (k := ?_)
            refine g_istore_n (q0 := 71) (j := 3) (lv2 := [_, _, _, _]) rfl dX11_count_70 (by decide) rfl rfl ?_
            exact h
          · replace h := wI_neg hs4 h
            by_cases hs5 : a1 = 5
            · replace h := wI_pos hs5 h
              refine g_tabIn (off := 101) (tgt := 104) dX11_count_3 (by omega) (by omega) (by rw [hs5]; rfl) (by decide) ?_
              refine g_iconst (q0 := 105) rfl dX11_count_104 (k := ?_)
              refine g_istore_n (q0 := 106) (j := 3) (lv2 := [_, _, _, _]) rfl dX11_count_105 (by decide) rfl rfl ?_
              exact h
            · replace h := wI_neg hs5 h
              refine g_tabOut (tgt := 131) dX11_count_3 (by omega) (by decide) ?_
              refine g_iconst (q0 := 132) rfl dX11_count_131 (k := ?_)
              exact g_ireturn dX11_count_132 rfl ⟨Nat.zero_le _, Nat.zero_le _⟩ h
-- ==== X11_unlikeContents
theorem dX11_unlikeContents_0 : decode cX11_unlikeContents 0 = .ok (.aload_n 0, 1) := by decide +kernel
theorem dX11_unlikeContents_1 : decode cX11_unlikeContents 1 = .ok (.getfield 82, 3) := by decide +kernel
theorem dX11_unlikeContents_4 : decode cX11_unlikeContents 4 = .ok (.iconst 0, 1) := by decide +kernel
theorem dX11_unlikeContents_5 : decode cX11_unlikeContents 5 = .ok (.invokestatic 527, 3) := by decide +kernel
theorem dX11_unlikeContents_8 : decode cX11_unlikeContents 8 = .ok (.iconst 0, 1) := by decide +kernel
theorem dX11_unlikeContents_9 : decode cX11_unlikeContents 9 = .ok (.istore_n 1, 1) := by decide +kernel
theorem dX11_unlikeContents_10 : decode cX11_unlikeContents 10 = .ok (.iconst 0, 1) := by decide +kernel
theorem dX11_unlikeContents_11 : decode cX11_unlikeContents 11 = .ok (.istore_n 2, 1) := by decide +kernel
theorem dX11_unlikeContents_12 : decode cX11_unlikeContents 12 = .ok (.iload_n 2, 1) := by decide +kernel
theorem dX11_unlikeContents_13 : decode cX11_unlikeContents 13 = .ok (.aload_n 0, 1) := by decide +kernel
theorem dX11_unlikeContents_14 : decode cX11_unlikeContents 14 = .ok (.getfield 27, 3) := by decide +kernel
theorem dX11_unlikeContents_17 : decode cX11_unlikeContents 17 = .ok (.getfield 135, 3) := by decide +kernel
theorem dX11_unlikeContents_20 : decode cX11_unlikeContents 20 = .ok (.if_icmp .ge 66, 3) := by decide +kernel
theorem dX11_unlikeContents_23 : decode cX11_unlikeContents 23 = .ok (.aload_n 0, 1) := by decide +kernel
theorem dX11_unlikeContents_24 : decode cX11_unlikeContents 24 = .ok (.getfield 27, 3) := by decide +kernel
theorem dX11_unlikeContents_27 : decode cX11_unlikeContents 27 = .ok (.iload_n 2, 1) := by decide +kernel
theorem dX11_unlikeContents_28 : decode cX11_unlikeContents 28 = .ok (.invokevirtual 155, 3) := by decide +kernel
theorem dX11_unlikeContents_31 : decode cX11_unlikeContents 31 = .ok (.astore_n 3, 1) := by decide +kernel
theorem dX11_unlikeContents_32 : decode cX11_unlikeContents 32 = .ok (.iconst 0, 1) := by decide +kernel
theorem dX11_unlikeContents_33 : decode cX11_unlikeContents 33 = .ok (.istore 4, 2) := by decide +kernel
theorem dX11_unlikeContents_35 : decode cX11_unlikeContents 35 = .ok (.aload_n 0, 1) := by decide +kernel
theorem dX11_unlikeContents_36 : decode cX11_unlikeContents 36 = .ok (.getfield 27, 3) := by decide +kernel
theorem dX11_unlikeContents_39 : decode cX11_unlikeContents 39 = .ok (.getfield 515, 3) := by decide +kernel
theorem dX11_unlikeContents_42 : decode cX11_unlikeContents 42 = .ok (.iload_n 2, 1) := by decide +kernel
theorem dX11_unlikeContents_43 : decode cX11_unlikeContents 43 = .ok (.iaload, 1) := by decide +kernel
theorem dX11_unlikeContents_44 : decode cX11_unlikeContents 44 = .ok (.iload_n 2, 1) := by decide +kernel
theorem dX11_unlikeContents_45 : decode cX11_unlikeContents 45 = .ok (.if_icmp .ne 35, 3) := by decide +kernel
theorem dX11_unlikeContents_48 : decode cX11_unlikeContents 48 = .ok (.iload 4, 2) := by decide +kernel
theorem dX11_unlikeContents_50 : decode cX11_unlikeContents 50 = .ok (.aload_n 3, 1) := by decide +kernel
theorem dX11_unlikeContents_51 : decode cX11_unlikeContents 51 = .ok (.getfield 159, 3) := by decide +kernel
theorem dX11_unlikeContents_54 : decode cX11_unlikeContents 54 = .ok (.if_icmp .ge 26, 3) := by decide +kernel
theorem dX11_unlikeContents_57 : decode cX11_unlikeContents 57 = .ok (.aload_n 0, 1) := by decide +kernel
theorem dX11_unlikeContents_58 : decode cX11_unlikeContents 58 = .ok (.aload_n 3, 1) := by decide +kernel
theorem dX11_unlikeContents_59 : decode cX11_unlikeContents 59 = .ok (.getfield 594, 3) := by decide +kernel
theorem dX11_unlikeContents_62 : decode cX11_unlikeContents 62 = .ok (.iload 4, 2) := by decide +kernel
theorem dX11_unlikeContents_64 : decode cX11_unlikeContents 64 = .ok (.iaload, 1) := by decide +kernel
theorem dX11_unlikeContents_65 : decode cX11_unlikeContents 65 = .ok (.invokevirtual 616, 3) := by decide +kernel
theorem dX11_unlikeContents_68 : decode cX11_unlikeContents 68 = .ok (.ifCond .eq 6, 3) := by decide +kernel
theorem dX11_unlikeContents_71 : decode cX11_unlikeContents 71 = .ok (.iinc 1 1, 3) := by decide +kernel
theorem dX11_unlikeContents_74 : decode cX11_unlikeContents 74 = .ok (.iinc 4 1, 3) := by decide +kernel
theorem dX11_unlikeContents_77 : decode cX11_unlikeContents 77 = .ok (.goto (-42), 3) := by decide +kernel
theorem dX11_unlikeContents_80 : decode cX11_unlikeContents 80 = .ok (.iinc 2 1, 3) := by decide +kernel
theorem dX11_unlikeContents_83 : decode cX11_unlikeContents 83 = .ok (.goto (-71), 3) := by decide +kernel
theorem dX11_unlikeContents_86 : decode cX11_unlikeContents 86 = .ok (.iload_n 1, 1) := by decide +kernel
theorem dX11_unlikeContents_87 : decode cX11_unlikeContents 87 = .ok (.ireturn, 1) := by decide +kernel
def P_X11_unlikeContents_12 (sh : gS) (Q : Option gV → gS → gM → Prop) (x1 x2 : Int) (M : gM) : Prop := gA (gr 1 23) yX11_unlikeContents cX11_unlikeContents 5 (some (.int)) Q (0, 0) 12 [(4, 0), (0, x1), (0, x2), (9, 0), (9, 0)] [] sh M
def P_X11_unlikeContents_35 (sh : gS) (Q : Option gV → gS → gM → Prop) (x1 x2 x3 x4 : Int) (M : gM) : Prop := gA (gr 1 23) yX11_unlikeContents cX11_unlikeContents 5 (some (.int)) Q (0, 0) 35 [(4, 0), (0, x1), (0, x2), (4, x3), (0, x4)] [] sh M
theorem w_X11_unlikeContents_12 {sh : gS} {Q : Option gV → gS → gM → Prop} {x1 x2 : Int} {M : gM} (hOK : gOK sh M) (h : (if x2 < (M 4 0) then
    (∃ v28 : Int, gC (gr 0 0) yX1_tree cX1_tree 2 (some (.object "CarriedHistory$Tree")) [(4, 4), (0, x2)] sh M (gPp sh M (4, v28)) ∧
      (P_X11_unlikeContents_35 sh Q x1 x2 v28 0 M))
  else
    (Q (some (0, x1)) sh M))) : P_X11_unlikeContents_12 sh Q x1 x2 M := by
  unfold P_X11_unlikeContents_12
  refine g_iload_n (q0 := 13) (j := 2) rfl dX11_unlikeContents_12 rfl ?_
  refine g_aload_n (q0 := 14) (j := 0) rfl dX11_unlikeContents_13 rfl ?_
  refine g_getp (q0 := 17) (b := 4) rfl ff_X11_27 dX11_unlikeContents_14 rfl hOK (by decide) (sh_0 hOK) rfl (by decide) ?_
  refine g_getf (q0 := 20) (t := 0) (fi := 0) rfl rfl ff_X11_135 dX11_unlikeContents_17 rfl (sh_4 hOK) ?_
  refine g_icmp_ge (q0 := 23) (tgt := 86) rfl dX11_unlikeContents_20 (by decide) (fun h20 => ?_) (fun h20 => ?_)
  · replace h := wI_neg (Int.not_lt.mpr h20) h
    refine g_iload_n (q0 := 87) (j := 1) rfl dX11_unlikeContents_86 rfl ?_
    exact g_ireturn dX11_unlikeContents_87 rfl ⟨Nat.zero_le _, Nat.zero_le _⟩ h
  · replace h := wI_pos h20 h
    refine g_aload_n (q0 := 24) (j := 0) rfl dX11_unlikeContents_23 rfl ?_
    refine g_getp (q0 := 27) (b := 4) rfl ff_X11_27 dX11_unlikeContents_24 rfl hOK (by decide) (sh_0 hOK) rfl (by decide) ?_
    refine g_iload_n (q0 := 28) (j := 2) rfl dX11_unlikeContents_27 rfl ?_
    obtain ⟨v28, e28, h⟩ := h
    refine g_callVp (as := [_]) (rest := []) mt_X1_tree mi_X1_tree se_X1_tree ml_X11_155 dX11_unlikeContents_28 (q0 := 31) rfl rfl (sh_4 hOK) rfl rfl e28 rfl ⟨by decide, by decide⟩ (Nat.le_of_ble_eq_true rfl) ⟨Nat.zero_le _, Nat.zero_le _⟩ (fun _ => ?_)
    refine g_astore_n (q0 := 32) (j := 3) (lv2 := [_, _, _, _, _]) rfl dX11_unlikeContents_31 (by decide) rfl rfl ?_
    refine g_iconst (q0 := 33) rfl dX11_unlikeContents_32 (k := ?_)
    refine g_istore (q0 := 35) (j := 4) (lv2 := [_, _, _, _, _]) rfl dX11_unlikeContents_33 (by decide) rfl rfl ?_
    exact h
theorem w_X11_unlikeContents_35 {sh : gS} {Q : Option gV → gS → gM → Prop} {x1 x2 x3 x4 : Int} {M : gM} (hOK : gOK sh M) (h : ((0 ≤ x2 ∧ x2 < 120) ∧
    (if (M 7 x2) = x2 then
      ((gsh sh x3 = some (0, 11) ∧ x3 < 758) ∧
        (if x4 < (M x3 2) then
          (∃ n3 : Nat, gsh sh (x3 + 2) = some (1, n3) ∧
            ((0 ≤ x4 ∧ x4 < (n3 : Int)) ∧
              (∃ P65 : Option gV → gM → Prop, gC (gr 0 0) yX11_isNewContent cX11_isNewContent 4 (some (.boolean)) [(4, 0), (0, (M (x3 + 2) x4))] sh M (gPm sh P65) ∧ ∀ (r65 : Option gV) (M65 : gM), P65 r65 M65 → ∃ v65 : Int, r65 = some (0, v65) ∧ gOK sh M65 ∧
                (if v65 = 0 then
                  (P_X11_unlikeContents_35 sh Q x1 x2 x3 (gw32 (x4 + 1)) M65)
                else
                  (P_X11_unlikeContents_35 sh Q (gw32 (x1 + 1)) x2 x3 (gw32 (x4 + 1)) M65)))))
        else
          (P_X11_unlikeContents_12 sh Q x1 (gw32 (x2 + 1)) M)))
    else
      (P_X11_unlikeContents_12 sh Q x1 (gw32 (x2 + 1)) M)))) : P_X11_unlikeContents_35 sh Q x1 x2 x3 x4 M := by
  unfold P_X11_unlikeContents_35
  refine g_aload_n (q0 := 36) (j := 0) rfl dX11_unlikeContents_35 rfl ?_
  refine g_getp (q0 := 39) (b := 4) rfl ff_X11_27 dX11_unlikeContents_36 rfl hOK (by decide) (sh_0 hOK) rfl (by decide) ?_
  refine g_getp (q0 := 42) (b := 7) rfl ff_X11_515 dX11_unlikeContents_39 rfl hOK (by decide) (sh_4 hOK) rfl (by decide) ?_
  refine g_iload_n (q0 := 43) (j := 2) rfl dX11_unlikeContents_42 rfl ?_
  obtain ⟨g1, h⟩ := h
  refine g_iald (q0 := 44) rfl dX11_unlikeContents_43 (sh_7 hOK) g1.1 g1.2 ?_
  refine g_iload_n (q0 := 45) (j := 2) rfl dX11_unlikeContents_44 rfl ?_
  refine g_icmp_ne (q0 := 48) (tgt := 80) rfl dX11_unlikeContents_45 (by decide) (fun h45 => ?_) (fun h45 => ?_)
  · replace h := wI_neg h45 h
    refine g_iincw (q0 := 83) (lv2 := [_, _, _, _, _]) rfl dX11_unlikeContents_80 rfl (by decide) rfl rfl ?_
    refine g_goto (tgt := 12) dX11_unlikeContents_83 (by decide) ?_
    refine gA_jk (lv1 := [_, _, _, (9, 0), (9, 0)]) ⟨.inl rfl, .inl rfl, .inl rfl, .inr rfl, .inr rfl, trivial⟩ ?_
    exact h
  · replace h := wI_pos h45 h
    refine g_iload (q0 := 50) (j := 4) rfl dX11_unlikeContents_48 rfl ?_
    refine g_aload_n (q0 := 51) (j := 3) rfl dX11_unlikeContents_50 rfl ?_
    obtain ⟨g2, h⟩ := h
    refine g_getf (q0 := 54) (t := 0) (fi := 2) rfl rfl ff_X11_159 dX11_unlikeContents_51 rfl g2.1 ?_
    refine g_icmp_ge (q0 := 57) (tgt := 80) rfl dX11_unlikeContents_54 (by decide) (fun h54 => ?_) (fun h54 => ?_)
    · replace h := wI_neg (Int.not_lt.mpr h54) h
      refine g_iincw (q0 := 83) (lv2 := [_, _, _, _, _]) rfl dX11_unlikeContents_80 rfl (by decide) rfl rfl ?_
      refine g_goto (tgt := 12) dX11_unlikeContents_83 (by decide) ?_
      refine gA_jk (lv1 := [_, _, _, (9, 0), (9, 0)]) ⟨.inl rfl, .inl rfl, .inl rfl, .inr rfl, .inr rfl, trivial⟩ ?_
      exact h
    · replace h := wI_pos h54 h
      refine g_aload_n (q0 := 58) (j := 0) rfl dX11_unlikeContents_57 rfl ?_
      refine g_aload_n (q0 := 59) (j := 3) rfl dX11_unlikeContents_58 rfl ?_
      refine g_getp (q0 := 62) (b := (x3 + 2)) rfl ff_X11_594 dX11_unlikeContents_59 rfl hOK g2.2 g2.1 rfl rfl ?_
      refine g_iload (q0 := 64) (j := 4) rfl dX11_unlikeContents_62 rfl ?_
      obtain ⟨n3, sn3, h⟩ := h
      obtain ⟨g4, h⟩ := h
      refine g_iald (q0 := 65) rfl dX11_unlikeContents_64 sn3 g4.1 g4.2 ?_
      obtain ⟨P65, e65, h⟩ := h
      refine g_callVm (as := [_]) (rest := []) mt_X11_isNewContent mi_X11_isNewContent se_X11_isNewContent ml_X11_616 dX11_unlikeContents_65 (q0 := 68) rfl rfl (sh_0 hOK) rfl rfl e65 rfl ⟨by decide, by decide⟩ (Nat.le_of_ble_eq_true rfl) ⟨Nat.zero_le _, Nat.zero_le _⟩ (fun r65 M65 hP65 hw65 hMw65 => ?_)
      obtain ⟨v65, hr65, hOK5, h⟩ := h r65 M65 hP65
      subst hr65
      refine g_if_eq (q0 := 71) (tgt := 74) rfl dX11_unlikeContents_68 (by decide) (fun h68 => ?_) (fun h68 => ?_)
      · replace h := wI_pos h68 h
        refine g_iincw (q0 := 77) (lv2 := [_, _, _, _, _]) rfl dX11_unlikeContents_74 rfl (by decide) rfl rfl ?_
        refine g_goto (tgt := 35) dX11_unlikeContents_77 (by decide) ?_
        exact h
      · replace h := wI_neg h68 h
        refine g_iincw (q0 := 74) (lv2 := [_, _, _, _, _]) rfl dX11_unlikeContents_71 rfl (by decide) rfl rfl ?_
        refine g_iincw (q0 := 77) (lv2 := [_, _, _, _, _]) rfl dX11_unlikeContents_74 rfl (by decide) rfl rfl ?_
        refine g_goto (tgt := 35) dX11_unlikeContents_77 (by decide) ?_
        exact h
theorem w_X11_unlikeContents {sh : gS} {Q : Option gV → gS → gM → Prop} {M : gM} (hOK : gOK sh M) (h : (∃ P5 : Option gV → gM → Prop, gC (gr 0 0) yJ7_fill_53178 cJ7_fill_53178 4 none [(4, 474), (0, 0)] sh M (gPm sh P5) ∧ ∀ (r5 : Option gV) (M5 : gM), P5 r5 M5 → r5 = none ∧ gOK sh M5 ∧
    (P_X11_unlikeContents_12 sh Q 0 0 M5))) : gC (gr 1 23) yX11_unlikeContents cX11_unlikeContents 5 (some (.int)) [(4, 0)] sh M Q := by
  refine gC_ofA (lv := [_, _, _, _, _]) (by decide +kernel) (Nat.le_of_ble_eq_true rfl) rfl (fun hMw hav => ?_)
  refine g_aload_n (q0 := 1) (j := 0) rfl dX11_unlikeContents_0 rfl ?_
  refine g_getp (q0 := 4) (b := 474) rfl ff_X11_82 dX11_unlikeContents_1 rfl hOK (by decide) (sh_0 hOK) rfl (by decide) ?_
  refine g_iconst (q0 := 5) rfl dX11_unlikeContents_4 (k := ?_)
  obtain ⟨P5, e5, h⟩ := h
  refine g_callSm (as := [_, _]) (rest := []) mt_J7_fill_53178 ms_J7_fill_53178 ml_X11_527 dX11_unlikeContents_5 (q0 := 8) rfl rfl e5 rfl ⟨by decide, by decide⟩ (Nat.le_of_ble_eq_true rfl) ⟨Nat.zero_le _, Nat.zero_le _⟩ (fun r5 M5 hP5 hw5 hMw5 => ?_)
  obtain ⟨hr5, hOK6, h⟩ := h r5 M5 hP5
  subst hr5
  refine g_iconst (q0 := 9) rfl dX11_unlikeContents_8 (k := ?_)
  refine g_istore_n (q0 := 10) (j := 1) (lv2 := [_, _, _, _, _]) rfl dX11_unlikeContents_9 (by decide) rfl rfl ?_
  refine g_iconst (q0 := 11) rfl dX11_unlikeContents_10 (k := ?_)
  refine g_istore_n (q0 := 12) (j := 2) (lv2 := [_, _, _, _, _]) rfl dX11_unlikeContents_11 (by decide) rfl rfl ?_
  exact h
-- ==== X11_isNewContent
theorem dX11_isNewContent_0 : decode cX11_isNewContent 0 = .ok (.iconst 0, 1) := by decide +kernel
theorem dX11_isNewContent_1 : decode cX11_isNewContent 1 = .ok (.istore_n 2, 1) := by decide +kernel
theorem dX11_isNewContent_2 : decode cX11_isNewContent 2 = .ok (.iload_n 2, 1) := by decide +kernel
theorem dX11_isNewContent_3 : decode cX11_isNewContent 3 = .ok (.sipush 4096, 3) := by decide +kernel
theorem dX11_isNewContent_6 : decode cX11_isNewContent 6 = .ok (.if_icmp .ge 50, 3) := by decide +kernel
theorem dX11_isNewContent_9 : decode cX11_isNewContent 9 = .ok (.iload_n 1, 1) := by decide +kernel
theorem dX11_isNewContent_10 : decode cX11_isNewContent 10 = .ok (.bipush 31, 2) := by decide +kernel
theorem dX11_isNewContent_12 : decode cX11_isNewContent 12 = .ok (.imul, 1) := by decide +kernel
theorem dX11_isNewContent_13 : decode cX11_isNewContent 13 = .ok (.iload_n 2, 1) := by decide +kernel
theorem dX11_isNewContent_14 : decode cX11_isNewContent 14 = .ok (.iadd, 1) := by decide +kernel
theorem dX11_isNewContent_15 : decode cX11_isNewContent 15 = .ok (.sipush 4095, 3) := by decide +kernel
theorem dX11_isNewContent_18 : decode cX11_isNewContent 18 = .ok (.iand, 1) := by decide +kernel
theorem dX11_isNewContent_19 : decode cX11_isNewContent 19 = .ok (.istore_n 3, 1) := by decide +kernel
theorem dX11_isNewContent_20 : decode cX11_isNewContent 20 = .ok (.aload_n 0, 1) := by decide +kernel
theorem dX11_isNewContent_21 : decode cX11_isNewContent 21 = .ok (.getfield 82, 3) := by decide +kernel
theorem dX11_isNewContent_24 : decode cX11_isNewContent 24 = .ok (.iload_n 3, 1) := by decide +kernel
theorem dX11_isNewContent_25 : decode cX11_isNewContent 25 = .ok (.iaload, 1) := by decide +kernel
theorem dX11_isNewContent_26 : decode cX11_isNewContent 26 = .ok (.iload_n 1, 1) := by decide +kernel
theorem dX11_isNewContent_27 : decode cX11_isNewContent 27 = .ok (.if_icmp .ne 5, 3) := by decide +kernel
theorem dX11_isNewContent_30 : decode cX11_isNewContent 30 = .ok (.iconst 0, 1) := by decide +kernel
theorem dX11_isNewContent_31 : decode cX11_isNewContent 31 = .ok (.ireturn, 1) := by decide +kernel
theorem dX11_isNewContent_32 : decode cX11_isNewContent 32 = .ok (.aload_n 0, 1) := by decide +kernel
theorem dX11_isNewContent_33 : decode cX11_isNewContent 33 = .ok (.getfield 82, 3) := by decide +kernel
theorem dX11_isNewContent_36 : decode cX11_isNewContent 36 = .ok (.iload_n 3, 1) := by decide +kernel
theorem dX11_isNewContent_37 : decode cX11_isNewContent 37 = .ok (.iaload, 1) := by decide +kernel
theorem dX11_isNewContent_38 : decode cX11_isNewContent 38 = .ok (.ifCond .ne 12, 3) := by decide +kernel
theorem dX11_isNewContent_41 : decode cX11_isNewContent 41 = .ok (.aload_n 0, 1) := by decide +kernel
theorem dX11_isNewContent_42 : decode cX11_isNewContent 42 = .ok (.getfield 82, 3) := by decide +kernel
theorem dX11_isNewContent_45 : decode cX11_isNewContent 45 = .ok (.iload_n 3, 1) := by decide +kernel
theorem dX11_isNewContent_46 : decode cX11_isNewContent 46 = .ok (.iload_n 1, 1) := by decide +kernel
theorem dX11_isNewContent_47 : decode cX11_isNewContent 47 = .ok (.iastore, 1) := by decide +kernel
theorem dX11_isNewContent_48 : decode cX11_isNewContent 48 = .ok (.iconst 1, 1) := by decide +kernel
theorem dX11_isNewContent_49 : decode cX11_isNewContent 49 = .ok (.ireturn, 1) := by decide +kernel
theorem dX11_isNewContent_50 : decode cX11_isNewContent 50 = .ok (.iinc 2 1, 3) := by decide +kernel
theorem dX11_isNewContent_53 : decode cX11_isNewContent 53 = .ok (.goto (-51), 3) := by decide +kernel
theorem dX11_isNewContent_56 : decode cX11_isNewContent 56 = .ok (.iconst 0, 1) := by decide +kernel
theorem dX11_isNewContent_57 : decode cX11_isNewContent 57 = .ok (.ireturn, 1) := by decide +kernel
def P_X11_isNewContent_2 (sh : gS) (Q : Option gV → gS → gM → Prop) (x1 x2 : Int) (M : gM) : Prop := gA (gr 0 0) yX11_isNewContent cX11_isNewContent 4 (some (.boolean)) Q (0, 0) 2 [(4, 0), (0, x1), (0, x2), (9, 0)] [] sh M
theorem w_X11_isNewContent_2 {sh : gS} {Q : Option gV → gS → gM → Prop} {x1 x2 : Int} {M : gM} (hOK : gOK sh M) (h : (if x2 < 4096 then
    ((0 ≤ (gand (gw32 ((gw32 (x1 * (31 : Int))) + x2)) 4095) ∧ (gand (gw32 ((gw32 (x1 * (31 : Int))) + x2)) 4095) < 4096) ∧
      (if (M 474 (gand (gw32 ((gw32 (x1 * (31 : Int))) + x2)) 4095)) = x1 then
        (Q (some (0, 0)) sh M)
      else
        (if (M 474 (gand (gw32 ((gw32 (x1 * (31 : Int))) + x2)) 4095)) = 0 then
          (Q (some (0, 1)) sh (gU M 474 (gand (gw32 ((gw32 (x1 * (31 : Int))) + x2)) 4095) x1))
        else
          (P_X11_isNewContent_2 sh Q x1 (gw32 (x2 + 1)) M))))
  else
    (Q (some (0, 0)) sh M))) : P_X11_isNewContent_2 sh Q x1 x2 M := by
  unfold P_X11_isNewContent_2
  refine g_iload_n (q0 := 3) (j := 2) rfl dX11_isNewContent_2 rfl ?_
  refine g_sipush (q0 := 6) rfl dX11_isNewContent_3 (k := ?_)
  refine g_icmp_ge (q0 := 9) (tgt := 56) rfl dX11_isNewContent_6 (by decide) (fun h6 => ?_) (fun h6 => ?_)
  · replace h := wI_neg (Int.not_lt.mpr h6) h
    refine g_iconst (q0 := 57) rfl dX11_isNewContent_56 (k := ?_)
    exact g_zreturn dX11_isNewContent_57 rfl (gnz (Or.inl rfl)) ⟨Nat.zero_le _, Nat.zero_le _⟩ h
  · replace h := wI_pos h6 h
    refine g_iload_n (q0 := 10) (j := 1) rfl dX11_isNewContent_9 rfl ?_
    refine g_bipush (q0 := 12) rfl dX11_isNewContent_10 (k := ?_)
    refine g_imulw (q0 := 13) rfl dX11_isNewContent_12 ?_
    refine g_iload_n (q0 := 14) (j := 2) rfl dX11_isNewContent_13 rfl ?_
    refine g_iaddw (q0 := 15) rfl dX11_isNewContent_14 ?_
    refine g_sipush (q0 := 18) rfl dX11_isNewContent_15 (k := ?_)
    refine g_iand (q0 := 19) rfl dX11_isNewContent_18 ?_
    refine g_istore_n (q0 := 20) (j := 3) (lv2 := [_, _, _, _]) rfl dX11_isNewContent_19 (by decide) rfl rfl ?_
    refine g_aload_n (q0 := 21) (j := 0) rfl dX11_isNewContent_20 rfl ?_
    refine g_getp (q0 := 24) (b := 474) rfl ff_X11_82 dX11_isNewContent_21 rfl hOK (by decide) (sh_0 hOK) rfl (by decide) ?_
    refine g_iload_n (q0 := 25) (j := 3) rfl dX11_isNewContent_24 rfl ?_
    obtain ⟨g1, h⟩ := h
    refine g_iald (q0 := 26) rfl dX11_isNewContent_25 (sh_474 hOK) g1.1 g1.2 ?_
    refine g_iload_n (q0 := 27) (j := 1) rfl dX11_isNewContent_26 rfl ?_
    refine g_icmp_ne (q0 := 30) (tgt := 32) rfl dX11_isNewContent_27 (by decide) (fun h27 => ?_) (fun h27 => ?_)
    · replace h := wI_neg h27 h
      refine g_aload_n (q0 := 33) (j := 0) rfl dX11_isNewContent_32 rfl ?_
      refine g_getp (q0 := 36) (b := 474) rfl ff_X11_82 dX11_isNewContent_33 rfl hOK (by decide) (sh_0 hOK) rfl (by decide) ?_
      refine g_iload_n (q0 := 37) (j := 3) rfl dX11_isNewContent_36 rfl ?_
      refine g_iald (q0 := 38) rfl dX11_isNewContent_37 (sh_474 hOK) g1.1 g1.2 ?_
      refine g_if_ne (q0 := 41) (tgt := 50) rfl dX11_isNewContent_38 (by decide) (fun h38 => ?_) (fun h38 => ?_)
      · replace h := wI_neg h38 h
        refine g_iincw (q0 := 53) (lv2 := [_, _, _, _]) rfl dX11_isNewContent_50 rfl (by decide) rfl rfl ?_
        refine g_goto (tgt := 2) dX11_isNewContent_53 (by decide) ?_
        refine gA_jk (lv1 := [_, _, _, (9, 0)]) ⟨.inl rfl, .inl rfl, .inl rfl, .inr rfl, trivial⟩ ?_
        exact h
      · replace h := wI_pos h38 h
        refine g_aload_n (q0 := 42) (j := 0) rfl dX11_isNewContent_41 rfl ?_
        refine g_getp (q0 := 45) (b := 474) rfl ff_X11_82 dX11_isNewContent_42 rfl hOK (by decide) (sh_0 hOK) rfl (by decide) ?_
        refine g_iload_n (q0 := 46) (j := 3) rfl dX11_isNewContent_45 rfl ?_
        refine g_iload_n (q0 := 47) (j := 1) rfl dX11_isNewContent_46 rfl ?_
        refine g_iast (q0 := 48) rfl dX11_isNewContent_47 (sh_474 hOK) g1.1 g1.2 ?_
        have hOK2 : gOK sh (gU M 474 (gand (gw32 ((gw32 (x1 * (31 : Int))) + x2)) 4095) x1) := gOK_i hOK (sh_474 hOK)
        refine g_iconst (q0 := 49) rfl dX11_isNewContent_48 (k := ?_)
        exact g_zreturn dX11_isNewContent_49 rfl (gnz (Or.inr rfl)) ⟨Nat.zero_le _, Nat.zero_le _⟩ h
    · replace h := wI_pos h27 h
      refine g_iconst (q0 := 31) rfl dX11_isNewContent_30 (k := ?_)
      exact g_zreturn dX11_isNewContent_31 rfl (gnz (Or.inl rfl)) ⟨Nat.zero_le _, Nat.zero_le _⟩ h
theorem w_X11_isNewContent {sh : gS} {Q : Option gV → gS → gM → Prop} {a1 : Int} {M : gM} (hOK : gOK sh M) (h : (P_X11_isNewContent_2 sh Q a1 0 M)) : gC (gr 0 0) yX11_isNewContent cX11_isNewContent 4 (some (.boolean)) [(4, 0), (0, a1)] sh M Q := by
  refine gC_ofA (lv := [_, _, _, _]) (by decide +kernel) (Nat.le_of_ble_eq_true rfl) rfl (fun hMw hav => ?_)
  refine g_iconst (q0 := 1) rfl dX11_isNewContent_0 (k := ?_)
  refine g_istore_n (q0 := 2) (j := 2) (lv2 := [_, _, _, _]) rfl dX11_isNewContent_1 (by decide) rfl rfl ?_
  exact h
-- ==== X11_isWho
theorem dX11_isWho_0 : decode cX11_isWho 0 = .ok (.iload_n 0, 1) := by decide +kernel
theorem dX11_isWho_1 : decode cX11_isWho 1 = .ok (.ifCond .lt 13, 3) := by decide +kernel
theorem dX11_isWho_4 : decode cX11_isWho 4 = .ok (.iload_n 0, 1) := by decide +kernel
theorem dX11_isWho_5 : decode cX11_isWho 5 = .ok (.bipush 9, 2) := by decide +kernel
theorem dX11_isWho_7 : decode cX11_isWho 7 = .ok (.if_icmp .gt 7, 3) := by decide +kernel
theorem dX11_isWho_10 : decode cX11_isWho 10 = .ok (.iconst 1, 1) := by decide +kernel
theorem dX11_isWho_11 : decode cX11_isWho 11 = .ok (.goto 4, 3) := by decide +kernel
theorem dX11_isWho_14 : decode cX11_isWho 14 = .ok (.iconst 0, 1) := by decide +kernel
theorem dX11_isWho_15 : decode cX11_isWho 15 = .ok (.ireturn, 1) := by decide +kernel
theorem w_X11_isWho {sh : gS} {Q : Option gV → gS → gM → Prop} {a0 : Int} {M : gM} (hOK : gOK sh M) (h : (if a0 < 0 then
    (Q (some (0, 0)) sh M)
  else
    (if (9 : Int) < a0 then
      (Q (some (0, 0)) sh M)
    else
      (Q (some (0, 1)) sh M)))) : gC (gr 0 0) yX11_isWho cX11_isWho 1 (some (.boolean)) [(0, a0)] sh M Q := by
  refine gC_ofA (lv := [_]) (by decide +kernel) (Nat.le_of_ble_eq_true rfl) rfl (fun hMw hav => ?_)
  refine g_iload_n (q0 := 1) (j := 0) rfl dX11_isWho_0 rfl ?_
  refine g_if_lt (q0 := 4) (tgt := 14) rfl dX11_isWho_1 (by decide) (fun h1 => ?_) (fun h1 => ?_)
  · replace h := wI_pos h1 h
    refine g_iconst (q0 := 15) rfl dX11_isWho_14 (k := ?_)
    exact g_zreturn dX11_isWho_15 rfl (gnz (Or.inl rfl)) ⟨Nat.zero_le _, Nat.zero_le _⟩ h
  · replace h := wI_neg (Int.not_lt.mpr h1) h
    refine g_iload_n (q0 := 5) (j := 0) rfl dX11_isWho_4 rfl ?_
    refine g_bipush (q0 := 7) rfl dX11_isWho_5 (k := ?_)
    refine g_icmp_gt (q0 := 10) (tgt := 14) rfl dX11_isWho_7 (by decide) (fun h7 => ?_) (fun h7 => ?_)
    · replace h := wI_pos h7 h
      refine g_iconst (q0 := 15) rfl dX11_isWho_14 (k := ?_)
      exact g_zreturn dX11_isWho_15 rfl (gnz (Or.inl rfl)) ⟨Nat.zero_le _, Nat.zero_le _⟩ h
    · replace h := wI_neg (Int.not_lt.mpr h7) h
      refine g_iconst (q0 := 11) rfl dX11_isWho_10 (k := ?_)
      refine g_goto (tgt := 15) dX11_isWho_11 (by decide) ?_
      exact g_zreturn dX11_isWho_15 rfl (gnz (Or.inr rfl)) ⟨Nat.zero_le _, Nat.zero_le _⟩ h
-- ==== X11_isHour
theorem dX11_isHour_0 : decode cX11_isHour 0 = .ok (.iload_n 0, 1) := by decide +kernel
theorem dX11_isHour_1 : decode cX11_isHour 1 = .ok (.ifCond .lt 14, 3) := by decide +kernel
theorem dX11_isHour_4 : decode cX11_isHour 4 = .ok (.iload_n 0, 1) := by decide +kernel
theorem dX11_isHour_5 : decode cX11_isHour 5 = .ok (.sipush 999, 3) := by decide +kernel
theorem dX11_isHour_8 : decode cX11_isHour 8 = .ok (.if_icmp .gt 7, 3) := by decide +kernel
theorem dX11_isHour_11 : decode cX11_isHour 11 = .ok (.iconst 1, 1) := by decide +kernel
theorem dX11_isHour_12 : decode cX11_isHour 12 = .ok (.goto 4, 3) := by decide +kernel
theorem dX11_isHour_15 : decode cX11_isHour 15 = .ok (.iconst 0, 1) := by decide +kernel
theorem dX11_isHour_16 : decode cX11_isHour 16 = .ok (.ireturn, 1) := by decide +kernel
theorem w_X11_isHour {sh : gS} {Q : Option gV → gS → gM → Prop} {a0 : Int} {M : gM} (hOK : gOK sh M) (h : (if a0 < 0 then
    (Q (some (0, 0)) sh M)
  else
    (if (999 : Int) < a0 then
      (Q (some (0, 0)) sh M)
    else
      (Q (some (0, 1)) sh M)))) : gC (gr 0 0) yX11_isHour cX11_isHour 1 (some (.boolean)) [(0, a0)] sh M Q := by
  refine gC_ofA (lv := [_]) (by decide +kernel) (Nat.le_of_ble_eq_true rfl) rfl (fun hMw hav => ?_)
  refine g_iload_n (q0 := 1) (j := 0) rfl dX11_isHour_0 rfl ?_
  refine g_if_lt (q0 := 4) (tgt := 15) rfl dX11_isHour_1 (by decide) (fun h1 => ?_) (fun h1 => ?_)
  · replace h := wI_pos h1 h
    refine g_iconst (q0 := 16) rfl dX11_isHour_15 (k := ?_)
    exact g_zreturn dX11_isHour_16 rfl (gnz (Or.inl rfl)) ⟨Nat.zero_le _, Nat.zero_le _⟩ h
  · replace h := wI_neg (Int.not_lt.mpr h1) h
    refine g_iload_n (q0 := 5) (j := 0) rfl dX11_isHour_4 rfl ?_
    refine g_sipush (q0 := 8) rfl dX11_isHour_5 (k := ?_)
    refine g_icmp_gt (q0 := 11) (tgt := 15) rfl dX11_isHour_8 (by decide) (fun h8 => ?_) (fun h8 => ?_)
    · replace h := wI_pos h8 h
      refine g_iconst (q0 := 16) rfl dX11_isHour_15 (k := ?_)
      exact g_zreturn dX11_isHour_16 rfl (gnz (Or.inl rfl)) ⟨Nat.zero_le _, Nat.zero_le _⟩ h
    · replace h := wI_neg (Int.not_lt.mpr h8) h
      refine g_iconst (q0 := 12) rfl dX11_isHour_11 (k := ?_)
      refine g_goto (tgt := 16) dX11_isHour_12 (by decide) ?_
      exact g_zreturn dX11_isHour_16 rfl (gnz (Or.inr rfl)) ⟨Nat.zero_le _, Nat.zero_le _⟩ h
-- ==== X11_isPlan
theorem dX11_isPlan_0 : decode cX11_isPlan 0 = .ok (.iload_n 0, 1) := by decide +kernel
theorem dX11_isPlan_1 : decode cX11_isPlan 1 = .ok (.ifCond .lt 12, 3) := by decide +kernel
theorem dX11_isPlan_4 : decode cX11_isPlan 4 = .ok (.iload_n 0, 1) := by decide +kernel
theorem dX11_isPlan_5 : decode cX11_isPlan 5 = .ok (.iconst 4, 1) := by decide +kernel
theorem dX11_isPlan_6 : decode cX11_isPlan 6 = .ok (.if_icmp .ge 7, 3) := by decide +kernel
theorem dX11_isPlan_9 : decode cX11_isPlan 9 = .ok (.iconst 1, 1) := by decide +kernel
theorem dX11_isPlan_10 : decode cX11_isPlan 10 = .ok (.goto 4, 3) := by decide +kernel
theorem dX11_isPlan_13 : decode cX11_isPlan 13 = .ok (.iconst 0, 1) := by decide +kernel
theorem dX11_isPlan_14 : decode cX11_isPlan 14 = .ok (.ireturn, 1) := by decide +kernel
theorem w_X11_isPlan {sh : gS} {Q : Option gV → gS → gM → Prop} {a0 : Int} {M : gM} (hOK : gOK sh M) (h : (if a0 < 0 then
    (Q (some (0, 0)) sh M)
  else
    (if a0 < 4 then
      (Q (some (0, 1)) sh M)
    else
      (Q (some (0, 0)) sh M)))) : gC (gr 0 0) yX11_isPlan cX11_isPlan 1 (some (.boolean)) [(0, a0)] sh M Q := by
  refine gC_ofA (lv := [_]) (by decide +kernel) (Nat.le_of_ble_eq_true rfl) rfl (fun hMw hav => ?_)
  refine g_iload_n (q0 := 1) (j := 0) rfl dX11_isPlan_0 rfl ?_
  refine g_if_lt (q0 := 4) (tgt := 13) rfl dX11_isPlan_1 (by decide) (fun h1 => ?_) (fun h1 => ?_)
  · replace h := wI_pos h1 h
    refine g_iconst (q0 := 14) rfl dX11_isPlan_13 (k := ?_)
    exact g_zreturn dX11_isPlan_14 rfl (gnz (Or.inl rfl)) ⟨Nat.zero_le _, Nat.zero_le _⟩ h
  · replace h := wI_neg (Int.not_lt.mpr h1) h
    refine g_iload_n (q0 := 5) (j := 0) rfl dX11_isPlan_4 rfl ?_
    refine g_iconst (q0 := 6) rfl dX11_isPlan_5 (k := ?_)
    refine g_icmp_ge (q0 := 9) (tgt := 13) rfl dX11_isPlan_6 (by decide) (fun h6 => ?_) (fun h6 => ?_)
    · replace h := wI_neg (Int.not_lt.mpr h6) h
      refine g_iconst (q0 := 14) rfl dX11_isPlan_13 (k := ?_)
      exact g_zreturn dX11_isPlan_14 rfl (gnz (Or.inl rfl)) ⟨Nat.zero_le _, Nat.zero_le _⟩ h
    · replace h := wI_pos h6 h
      refine g_iconst (q0 := 10) rfl dX11_isPlan_9 (k := ?_)
      refine g_goto (tgt := 14) dX11_isPlan_10 (by decide) ?_
      exact g_zreturn dX11_isPlan_14 rfl (gnz (Or.inr rfl)) ⟨Nat.zero_le _, Nat.zero_le _⟩ h
-- ==== X11_isHistory
theorem dX11_isHistory_0 : decode cX11_isHistory 0 = .ok (.iload_n 0, 1) := by decide +kernel
theorem dX11_isHistory_1 : decode cX11_isHistory 1 = .ok (.ifCond .lt 12, 3) := by decide +kernel
theorem dX11_isHistory_4 : decode cX11_isHistory 4 = .ok (.iload_n 0, 1) := by decide +kernel
theorem dX11_isHistory_5 : decode cX11_isHistory 5 = .ok (.iconst 4, 1) := by decide +kernel
theorem dX11_isHistory_6 : decode cX11_isHistory 6 = .ok (.if_icmp .ge 7, 3) := by decide +kernel
theorem dX11_isHistory_9 : decode cX11_isHistory 9 = .ok (.iconst 1, 1) := by decide +kernel
theorem dX11_isHistory_10 : decode cX11_isHistory 10 = .ok (.goto 4, 3) := by decide +kernel
theorem dX11_isHistory_13 : decode cX11_isHistory 13 = .ok (.iconst 0, 1) := by decide +kernel
theorem dX11_isHistory_14 : decode cX11_isHistory 14 = .ok (.ireturn, 1) := by decide +kernel
theorem w_X11_isHistory {sh : gS} {Q : Option gV → gS → gM → Prop} {a0 : Int} {M : gM} (hOK : gOK sh M) (h : (if a0 < 0 then
    (Q (some (0, 0)) sh M)
  else
    (if a0 < 4 then
      (Q (some (0, 1)) sh M)
    else
      (Q (some (0, 0)) sh M)))) : gC (gr 0 0) yX11_isHistory cX11_isHistory 1 (some (.boolean)) [(0, a0)] sh M Q := by
  refine gC_ofA (lv := [_]) (by decide +kernel) (Nat.le_of_ble_eq_true rfl) rfl (fun hMw hav => ?_)
  refine g_iload_n (q0 := 1) (j := 0) rfl dX11_isHistory_0 rfl ?_
  refine g_if_lt (q0 := 4) (tgt := 13) rfl dX11_isHistory_1 (by decide) (fun h1 => ?_) (fun h1 => ?_)
  · replace h := wI_pos h1 h
    refine g_iconst (q0 := 14) rfl dX11_isHistory_13 (k := ?_)
    exact g_zreturn dX11_isHistory_14 rfl (gnz (Or.inl rfl)) ⟨Nat.zero_le _, Nat.zero_le _⟩ h
  · replace h := wI_neg (Int.not_lt.mpr h1) h
    refine g_iload_n (q0 := 5) (j := 0) rfl dX11_isHistory_4 rfl ?_
    refine g_iconst (q0 := 6) rfl dX11_isHistory_5 (k := ?_)
    refine g_icmp_ge (q0 := 9) (tgt := 13) rfl dX11_isHistory_6 (by decide) (fun h6 => ?_) (fun h6 => ?_)
    · replace h := wI_neg (Int.not_lt.mpr h6) h
      refine g_iconst (q0 := 14) rfl dX11_isHistory_13 (k := ?_)
      exact g_zreturn dX11_isHistory_14 rfl (gnz (Or.inl rfl)) ⟨Nat.zero_le _, Nat.zero_le _⟩ h
    · replace h := wI_pos h6 h
      refine g_iconst (q0 := 10) rfl dX11_isHistory_9 (k := ?_)
      refine g_goto (tgt := 14) dX11_isHistory_10 (by decide) ?_
      exact g_zreturn dX11_isHistory_14 rfl (gnz (Or.inr rfl)) ⟨Nat.zero_le _, Nat.zero_le _⟩ h
-- ==== X11_isLetter
theorem dX11_isLetter_0 : decode cX11_isLetter 0 = .ok (.iload_n 0, 1) := by decide +kernel
theorem dX11_isLetter_1 : decode cX11_isLetter 1 = .ok (.ifCond .lt 13, 3) := by decide +kernel
theorem dX11_isLetter_4 : decode cX11_isLetter 4 = .ok (.iload_n 0, 1) := by decide +kernel
theorem dX11_isLetter_5 : decode cX11_isLetter 5 = .ok (.bipush 26, 2) := by decide +kernel
theorem dX11_isLetter_7 : decode cX11_isLetter 7 = .ok (.if_icmp .ge 7, 3) := by decide +kernel
theorem dX11_isLetter_10 : decode cX11_isLetter 10 = .ok (.iconst 1, 1) := by decide +kernel
theorem dX11_isLetter_11 : decode cX11_isLetter 11 = .ok (.goto 4, 3) := by decide +kernel
theorem dX11_isLetter_14 : decode cX11_isLetter 14 = .ok (.iconst 0, 1) := by decide +kernel
theorem dX11_isLetter_15 : decode cX11_isLetter 15 = .ok (.ireturn, 1) := by decide +kernel
theorem w_X11_isLetter {sh : gS} {Q : Option gV → gS → gM → Prop} {a0 : Int} {M : gM} (hOK : gOK sh M) (h : (if a0 < 0 then
    (Q (some (0, 0)) sh M)
  else
    (if a0 < 26 then
      (Q (some (0, 1)) sh M)
    else
      (Q (some (0, 0)) sh M)))) : gC (gr 0 0) yX11_isLetter cX11_isLetter 1 (some (.boolean)) [(0, a0)] sh M Q := by
  refine gC_ofA (lv := [_]) (by decide +kernel) (Nat.le_of_ble_eq_true rfl) rfl (fun hMw hav => ?_)
  refine g_iload_n (q0 := 1) (j := 0) rfl dX11_isLetter_0 rfl ?_
  refine g_if_lt (q0 := 4) (tgt := 14) rfl dX11_isLetter_1 (by decide) (fun h1 => ?_) (fun h1 => ?_)
  · replace h := wI_pos h1 h
    refine g_iconst (q0 := 15) rfl dX11_isLetter_14 (k := ?_)
    exact g_zreturn dX11_isLetter_15 rfl (gnz (Or.inl rfl)) ⟨Nat.zero_le _, Nat.zero_le _⟩ h
  · replace h := wI_neg (Int.not_lt.mpr h1) h
    refine g_iload_n (q0 := 5) (j := 0) rfl dX11_isLetter_4 rfl ?_
    refine g_bipush (q0 := 7) rfl dX11_isLetter_5 (k := ?_)
    refine g_icmp_ge (q0 := 10) (tgt := 14) rfl dX11_isLetter_7 (by decide) (fun h7 => ?_) (fun h7 => ?_)
    · replace h := wI_neg (Int.not_lt.mpr h7) h
      refine g_iconst (q0 := 15) rfl dX11_isLetter_14 (k := ?_)
      exact g_zreturn dX11_isLetter_15 rfl (gnz (Or.inl rfl)) ⟨Nat.zero_le _, Nat.zero_le _⟩ h
    · replace h := wI_pos h7 h
      refine g_iconst (q0 := 11) rfl dX11_isLetter_10 (k := ?_)
      refine g_goto (tgt := 15) dX11_isLetter_11 (by decide) ?_
      exact g_zreturn dX11_isLetter_15 rfl (gnz (Or.inr rfl)) ⟨Nat.zero_le _, Nat.zero_le _⟩ h
-- ==== X11_isFile
theorem dX11_isFile_0 : decode cX11_isFile 0 = .ok (.iload_n 0, 1) := by decide +kernel
theorem dX11_isFile_1 : decode cX11_isFile 1 = .ok (.ifCond .lt 13, 3) := by decide +kernel
theorem dX11_isFile_4 : decode cX11_isFile 4 = .ok (.iload_n 0, 1) := by decide +kernel
theorem dX11_isFile_5 : decode cX11_isFile 5 = .ok (.bipush 16, 2) := by decide +kernel
theorem dX11_isFile_7 : decode cX11_isFile 7 = .ok (.if_icmp .ge 7, 3) := by decide +kernel
theorem dX11_isFile_10 : decode cX11_isFile 10 = .ok (.iconst 1, 1) := by decide +kernel
theorem dX11_isFile_11 : decode cX11_isFile 11 = .ok (.goto 4, 3) := by decide +kernel
theorem dX11_isFile_14 : decode cX11_isFile 14 = .ok (.iconst 0, 1) := by decide +kernel
theorem dX11_isFile_15 : decode cX11_isFile 15 = .ok (.ireturn, 1) := by decide +kernel
theorem w_X11_isFile {sh : gS} {Q : Option gV → gS → gM → Prop} {a0 : Int} {M : gM} (hOK : gOK sh M) (h : (if a0 < 0 then
    (Q (some (0, 0)) sh M)
  else
    (if a0 < 16 then
      (Q (some (0, 1)) sh M)
    else
      (Q (some (0, 0)) sh M)))) : gC (gr 0 0) yX11_isFile cX11_isFile 1 (some (.boolean)) [(0, a0)] sh M Q := by
  refine gC_ofA (lv := [_]) (by decide +kernel) (Nat.le_of_ble_eq_true rfl) rfl (fun hMw hav => ?_)
  refine g_iload_n (q0 := 1) (j := 0) rfl dX11_isFile_0 rfl ?_
  refine g_if_lt (q0 := 4) (tgt := 14) rfl dX11_isFile_1 (by decide) (fun h1 => ?_) (fun h1 => ?_)
  · replace h := wI_pos h1 h
    refine g_iconst (q0 := 15) rfl dX11_isFile_14 (k := ?_)
    exact g_zreturn dX11_isFile_15 rfl (gnz (Or.inl rfl)) ⟨Nat.zero_le _, Nat.zero_le _⟩ h
  · replace h := wI_neg (Int.not_lt.mpr h1) h
    refine g_iload_n (q0 := 5) (j := 0) rfl dX11_isFile_4 rfl ?_
    refine g_bipush (q0 := 7) rfl dX11_isFile_5 (k := ?_)
    refine g_icmp_ge (q0 := 10) (tgt := 14) rfl dX11_isFile_7 (by decide) (fun h7 => ?_) (fun h7 => ?_)
    · replace h := wI_neg (Int.not_lt.mpr h7) h
      refine g_iconst (q0 := 15) rfl dX11_isFile_14 (k := ?_)
      exact g_zreturn dX11_isFile_15 rfl (gnz (Or.inl rfl)) ⟨Nat.zero_le _, Nat.zero_le _⟩ h
    · replace h := wI_pos h7 h
      refine g_iconst (q0 := 11) rfl dX11_isFile_10 (k := ?_)
      refine g_goto (tgt := 15) dX11_isFile_11 (by decide) ?_
      exact g_zreturn dX11_isFile_15 rfl (gnz (Or.inr rfl)) ⟨Nat.zero_le _, Nat.zero_le _⟩ h
-- ==== X11_hundredths
theorem dX11_hundredths_0 : decode cX11_hundredths 0 = .ok (.ldc_w 619, 3) := by decide +kernel
theorem dX11_hundredths_3 : decode cX11_hundredths 3 = .ok (.fload_n 0, 1) := by decide +kernel
theorem dX11_hundredths_4 : decode cX11_hundredths 4 = .ok (.fmul, 1) := by decide +kernel
theorem dX11_hundredths_5 : decode cX11_hundredths 5 = .ok (.f2i, 1) := by decide +kernel
theorem dX11_hundredths_6 : decode cX11_hundredths 6 = .ok (.ireturn, 1) := by decide +kernel
theorem w_X11_hundredths {sh : gS} {Q : Option gV → gS → gM → Prop} {a0 : Int} {M : gM} (hOK : gOK sh M) (h : ((vf_n32 (FP.fmul (gu (gfl 1120403456)) (gu a0))) ∧
    (Q (some (0, (FP.f2i (gu (gfl (FP.fmul (gu (gfl 1120403456)) (gu a0))))).toInt)) sh M))) : gC (gr 0 0) yX11_hundredths cX11_hundredths 1 (some (.int)) [(2, a0)] sh M Q := by
  refine gC_ofA (lv := [_]) (by decide +kernel) (Nat.le_of_ble_eq_true rfl) rfl (fun hMw hav => ?_)
  refine g_ldcwf (q0 := 3) rfl co_X11_619 dX11_hundredths_0 ?_
  refine g_fload_n (q0 := 4) (j := 0) rfl dX11_hundredths_3 rfl ?_
  obtain ⟨g1, h⟩ := h
  refine g_fmul (q0 := 5) rfl dX11_hundredths_4 g1 ?_
  refine g_f2i (q0 := 6) rfl dX11_hundredths_5 ?_
  exact g_ireturn dX11_hundredths_6 rfl ⟨Nat.zero_le _, Nat.zero_le _⟩ h
-- ==== X11_floatBits
theorem dX11_floatBits_0 : decode cX11_floatBits 0 = .ok (.fload_n 0, 1) := by decide +kernel
theorem dX11_floatBits_1 : decode cX11_floatBits 1 = .ok (.fconst 0, 1) := by decide +kernel
theorem dX11_floatBits_2 : decode cX11_floatBits 2 = .ok (.fcmp .g, 1) := by decide +kernel
theorem dX11_floatBits_3 : decode cX11_floatBits 3 = .ok (.ifCond .gt 5, 3) := by decide +kernel
theorem dX11_floatBits_6 : decode cX11_floatBits 6 = .ok (.iconst 0, 1) := by decide +kernel
theorem dX11_floatBits_7 : decode cX11_floatBits 7 = .ok (.ireturn, 1) := by decide +kernel
theorem dX11_floatBits_8 : decode cX11_floatBits 8 = .ok (.fload_n 0, 1) := by decide +kernel
theorem dX11_floatBits_9 : decode cX11_floatBits 9 = .ok (.f2d, 1) := by decide +kernel
theorem dX11_floatBits_10 : decode cX11_floatBits 10 = .ok (.dstore_n 1, 1) := by decide +kernel
theorem dX11_floatBits_11 : decode cX11_floatBits 11 = .ok (.bipush 127, 2) := by decide +kernel
theorem dX11_floatBits_13 : decode cX11_floatBits 13 = .ok (.istore_n 3, 1) := by decide +kernel
theorem dX11_floatBits_14 : decode cX11_floatBits 14 = .ok (.iconst 0, 1) := by decide +kernel
theorem dX11_floatBits_15 : decode cX11_floatBits 15 = .ok (.istore 4, 2) := by decide +kernel
theorem dX11_floatBits_17 : decode cX11_floatBits 17 = .ok (.iload 4, 2) := by decide +kernel
theorem dX11_floatBits_19 : decode cX11_floatBits 19 = .ok (.bipush 126, 2) := by decide +kernel
theorem dX11_floatBits_21 : decode cX11_floatBits 21 = .ok (.if_icmp .ge 24, 3) := by decide +kernel
theorem dX11_floatBits_24 : decode cX11_floatBits 24 = .ok (.dload_n 1, 1) := by decide +kernel
theorem dX11_floatBits_25 : decode cX11_floatBits 25 = .ok (.dconst 1, 1) := by decide +kernel
theorem dX11_floatBits_26 : decode cX11_floatBits 26 = .ok (.dcmp .g, 1) := by decide +kernel
theorem dX11_floatBits_27 : decode cX11_floatBits 27 = .ok (.ifCond .ge 18, 3) := by decide +kernel
theorem dX11_floatBits_30 : decode cX11_floatBits 30 = .ok (.dload_n 1, 1) := by decide +kernel
theorem dX11_floatBits_31 : decode cX11_floatBits 31 = .ok (.ldc2_w 620, 3) := by decide +kernel
theorem dX11_floatBits_34 : decode cX11_floatBits 34 = .ok (.dmul, 1) := by decide +kernel
theorem dX11_floatBits_35 : decode cX11_floatBits 35 = .ok (.dstore_n 1, 1) := by decide +kernel
theorem dX11_floatBits_36 : decode cX11_floatBits 36 = .ok (.iinc 3 (-1), 3) := by decide +kernel
theorem dX11_floatBits_39 : decode cX11_floatBits 39 = .ok (.iinc 4 1, 3) := by decide +kernel
theorem dX11_floatBits_42 : decode cX11_floatBits 42 = .ok (.goto (-25), 3) := by decide +kernel
theorem dX11_floatBits_45 : decode cX11_floatBits 45 = .ok (.dload_n 1, 1) := by decide +kernel
theorem dX11_floatBits_46 : decode cX11_floatBits 46 = .ok (.dconst 1, 1) := by decide +kernel
theorem dX11_floatBits_47 : decode cX11_floatBits 47 = .ok (.dcmp .g, 1) := by decide +kernel
theorem dX11_floatBits_48 : decode cX11_floatBits 48 = .ok (.ifCond .ge 10, 3) := by decide +kernel
theorem dX11_floatBits_51 : decode cX11_floatBits 51 = .ok (.dload_n 1, 1) := by decide +kernel
theorem dX11_floatBits_52 : decode cX11_floatBits 52 = .ok (.ldc2_w 622, 3) := by decide +kernel
theorem dX11_floatBits_55 : decode cX11_floatBits 55 = .ok (.dmul, 1) := by decide +kernel
theorem dX11_floatBits_56 : decode cX11_floatBits 56 = .ok (.d2i, 1) := by decide +kernel
theorem dX11_floatBits_57 : decode cX11_floatBits 57 = .ok (.ireturn, 1) := by decide +kernel
theorem dX11_floatBits_58 : decode cX11_floatBits 58 = .ok (.iload_n 3, 1) := by decide +kernel
theorem dX11_floatBits_59 : decode cX11_floatBits 59 = .ok (.bipush 23, 2) := by decide +kernel
theorem dX11_floatBits_61 : decode cX11_floatBits 61 = .ok (.ishl, 1) := by decide +kernel
theorem dX11_floatBits_62 : decode cX11_floatBits 62 = .ok (.dload_n 1, 1) := by decide +kernel
theorem dX11_floatBits_63 : decode cX11_floatBits 63 = .ok (.dconst 1, 1) := by decide +kernel
theorem dX11_floatBits_64 : decode cX11_floatBits 64 = .ok (.dsub, 1) := by decide +kernel
theorem dX11_floatBits_65 : decode cX11_floatBits 65 = .ok (.ldc2_w 622, 3) := by decide +kernel
theorem dX11_floatBits_68 : decode cX11_floatBits 68 = .ok (.dmul, 1) := by decide +kernel
theorem dX11_floatBits_69 : decode cX11_floatBits 69 = .ok (.d2i, 1) := by decide +kernel
theorem dX11_floatBits_70 : decode cX11_floatBits 70 = .ok (.ior, 1) := by decide +kernel
theorem dX11_floatBits_71 : decode cX11_floatBits 71 = .ok (.ireturn, 1) := by decide +kernel
def P_X11_floatBits_17 (sh : gS) (Q : Option gV → gS → gM → Prop) (x0 x1 x3 x4 : Int) (M : gM) : Prop := gA (gr 0 0) yX11_floatBits cX11_floatBits 5 (some (.int)) Q (0, 0) 17 [(2, x0), (3, x1), (9, 0), (0, x3), (0, x4)] [] sh M
def P_X11_floatBits_45 (sh : gS) (Q : Option gV → gS → gM → Prop) (x0 x1 x3 x4 : Int) (M : gM) : Prop := gA (gr 0 0) yX11_floatBits cX11_floatBits 5 (some (.int)) Q (0, 0) 45 [(2, x0), (3, x1), (9, 0), (0, x3), (0, x4)] [] sh M
theorem w_X11_floatBits_17 {sh : gS} {Q : Option gV → gS → gM → Prop} {x0 x1 x3 x4 : Int} {M : gM} (hOK : gOK sh M) (h : (if x4 < 126 then
    (if (Op.cmpValue (FP.dcmp (gU64 x1) (gU64 (gdb FP.dconst1))) .g).toInt < 0 then
      ((vf_n64 (FP.dmul (gU64 x1) (gU64 (gdb 4611686018427387904)))) ∧
        (P_X11_floatBits_17 sh Q x0 (gdb (FP.dmul (gU64 x1) (gU64 (gdb 4611686018427387904)))) (gw32 (x3 + (-1))) (gw32 (x4 + 1)) M))
    else
      (P_X11_floatBits_45 sh Q x0 x1 x3 x4 M))
  else
    (P_X11_floatBits_45 sh Q x0 x1 x3 x4 M))) : P_X11_floatBits_17 sh Q x0 x1 x3 x4 M := by
  unfold P_X11_floatBits_17
  refine g_iload (q0 := 19) (j := 4) rfl dX11_floatBits_17 rfl ?_
  refine g_bipush (q0 := 21) rfl dX11_floatBits_19 (k := ?_)
  refine g_icmp_ge (q0 := 24) (tgt := 45) rfl dX11_floatBits_21 (by decide) (fun h21 => ?_) (fun h21 => ?_)
  · replace h := wI_neg (Int.not_lt.mpr h21) h
    exact h
  · replace h := wI_pos h21 h
    refine g_dload_n (q0 := 25) (j := 1) rfl dX11_floatBits_24 rfl ?_
    refine g_dconst1 (q0 := 26) rfl dX11_floatBits_25 ?_
    refine g_dcmp (q0 := 27) rfl dX11_floatBits_26 ?_
    refine g_if_ge (q0 := 30) (tgt := 45) rfl dX11_floatBits_27 (by decide) (fun h27 => ?_) (fun h27 => ?_)
    · replace h := wI_neg (Int.not_lt.mpr h27) h
      exact h
    · replace h := wI_pos h27 h
      refine g_dload_n (q0 := 31) (j := 1) rfl dX11_floatBits_30 rfl ?_
      refine g_ldc2d (q0 := 34) rfl co_X11_620 dX11_floatBits_31 ?_
      obtain ⟨g1, h⟩ := h
      refine g_dmul (q0 := 35) rfl dX11_floatBits_34 g1 ?_
      refine g_dstore_n (q0 := 36) (j := 1) (lv2 := [_, _, _, _, _]) rfl dX11_floatBits_35 (by decide) rfl rfl ?_
      refine g_iincw (q0 := 39) (lv2 := [_, _, _, _, _]) rfl dX11_floatBits_36 rfl (by decide) rfl rfl ?_
      refine g_iincw (q0 := 42) (lv2 := [_, _, _, _, _]) rfl dX11_floatBits_39 rfl (by decide) rfl rfl ?_
      refine g_goto (tgt := 17) dX11_floatBits_42 (by decide) ?_
      exact h
theorem w_X11_floatBits_45 {sh : gS} {Q : Option gV → gS → gM → Prop} {x0 x1 x3 x4 : Int} {M : gM} (hOK : gOK sh M) (h : (if (Op.cmpValue (FP.dcmp (gU64 x1) (gU64 (gdb FP.dconst1))) .g).toInt < 0 then
    ((vf_n64 (FP.dmul (gU64 x1) (gU64 (gdb 4710765210229538816)))) ∧
      (Q (some (0, (FP.d2i (gU64 (gdb (FP.dmul (gU64 x1) (gU64 (gdb 4710765210229538816)))))).toInt)) sh M))
  else
    ((vf_n64 (FP.dsub (gU64 x1) (gU64 (gdb FP.dconst1)))) ∧
      ((vf_n64 (FP.dmul (gU64 (gdb (FP.dsub (gU64 x1) (gU64 (gdb FP.dconst1))))) (gU64 (gdb 4710765210229538816)))) ∧
        (Q (some (0, (gor (gshl x3 23) ((FP.d2i (gU64 (gdb (FP.dmul (gU64 (gdb (FP.dsub (gU64 x1) (gU64 (gdb FP.dconst1))))) (gU64 (gdb 4710765210229538816)))))).toInt)))) sh M))))) : P_X11_floatBits_45 sh Q x0 x1 x3 x4 M := by
  unfold P_X11_floatBits_45
  refine g_dload_n (q0 := 46) (j := 1) rfl dX11_floatBits_45 rfl ?_
  refine g_dconst1 (q0 := 47) rfl dX11_floatBits_46 ?_
  refine g_dcmp (q0 := 48) rfl dX11_floatBits_47 ?_
  refine g_if_ge (q0 := 51) (tgt := 58) rfl dX11_floatBits_48 (by decide) (fun h48 => ?_) (fun h48 => ?_)
  · replace h := wI_neg (Int.not_lt.mpr h48) h
    refine g_iload_n (q0 := 59) (j := 3) rfl dX11_floatBits_58 rfl ?_
    refine g_bipush (q0 := 61) rfl dX11_floatBits_59 (k := ?_)
    refine g_ishl (q0 := 62) rfl dX11_floatBits_61 ?_
    refine g_dload_n (q0 := 63) (j := 1) rfl dX11_floatBits_62 rfl ?_
    refine g_dconst1 (q0 := 64) rfl dX11_floatBits_63 ?_
    obtain ⟨g2, h⟩ := h
    refine g_dsub (q0 := 65) rfl dX11_floatBits_64 g2 ?_
    refine g_ldc2d (q0 := 68) rfl co_X11_622 dX11_floatBits_65 ?_
    obtain ⟨g3, h⟩ := h
    refine g_dmul (q0 := 69) rfl dX11_floatBits_68 g3 ?_
    refine g_d2i (q0 := 70) rfl dX11_floatBits_69 ?_
    refine g_ior (q0 := 71) rfl dX11_floatBits_70 ?_
    exact g_ireturn dX11_floatBits_71 rfl ⟨Nat.zero_le _, Nat.zero_le _⟩ h
  · replace h := wI_pos h48 h
    refine g_dload_n (q0 := 52) (j := 1) rfl dX11_floatBits_51 rfl ?_
    refine g_ldc2d (q0 := 55) rfl co_X11_622 dX11_floatBits_52 ?_
    obtain ⟨g4, h⟩ := h
    refine g_dmul (q0 := 56) rfl dX11_floatBits_55 g4 ?_
    refine g_d2i (q0 := 57) rfl dX11_floatBits_56 ?_
    exact g_ireturn dX11_floatBits_57 rfl ⟨Nat.zero_le _, Nat.zero_le _⟩ h
theorem w_X11_floatBits {sh : gS} {Q : Option gV → gS → gM → Prop} {a0 : Int} {M : gM} (hOK : gOK sh M) (h : (if (0 : Int) < (Op.cmpValue (FP.fcmp (gu a0) (gu (gfl FP.fconst0))) .g).toInt then
    ((vf_n64 (FP.f2d (gu a0))) ∧
      (P_X11_floatBits_17 sh Q a0 (gdb (FP.f2d (gu a0))) 127 0 M))
  else
    (Q (some (0, 0)) sh M))) : gC (gr 0 0) yX11_floatBits cX11_floatBits 5 (some (.int)) [(2, a0)] sh M Q := by
  refine gC_ofA (lv := [_, _, _, _, _]) (by decide +kernel) (Nat.le_of_ble_eq_true rfl) rfl (fun hMw hav => ?_)
  refine g_fload_n (q0 := 1) (j := 0) rfl dX11_floatBits_0 rfl ?_
  refine g_fconst0 (q0 := 2) rfl dX11_floatBits_1 ?_
  refine g_fcmp (q0 := 3) rfl dX11_floatBits_2 ?_
  refine g_if_gt (q0 := 6) (tgt := 8) rfl dX11_floatBits_3 (by decide) (fun h3 => ?_) (fun h3 => ?_)
  · replace h := wI_pos h3 h
    refine g_fload_n (q0 := 9) (j := 0) rfl dX11_floatBits_8 rfl ?_
    obtain ⟨g5, h⟩ := h
    refine g_f2d (q0 := 10) rfl dX11_floatBits_9 g5 ?_
    refine g_dstore_n (q0 := 11) (j := 1) (lv2 := [_, _, _, _, _]) rfl dX11_floatBits_10 (by decide) rfl rfl ?_
    refine g_bipush (q0 := 13) rfl dX11_floatBits_11 (k := ?_)
    refine g_istore_n (q0 := 14) (j := 3) (lv2 := [_, _, _, _, _]) rfl dX11_floatBits_13 (by decide) rfl rfl ?_
    refine g_iconst (q0 := 15) rfl dX11_floatBits_14 (k := ?_)
    refine g_istore (q0 := 17) (j := 4) (lv2 := [_, _, _, _, _]) rfl dX11_floatBits_15 (by decide) rfl rfl ?_
    exact h
  · replace h := wI_neg (Int.not_lt.mpr h3) h
    refine g_iconst (q0 := 7) rfl dX11_floatBits_6 (k := ?_)
    exact g_ireturn dX11_floatBits_7 rfl ⟨Nat.zero_le _, Nat.zero_le _⟩ h
-- ==== X11_doubleBits
theorem dX11_doubleBits_0 : decode cX11_doubleBits 0 = .ok (.dload_n 0, 1) := by decide +kernel
theorem dX11_doubleBits_1 : decode cX11_doubleBits 1 = .ok (.dconst 0, 1) := by decide +kernel
theorem dX11_doubleBits_2 : decode cX11_doubleBits 2 = .ok (.dcmp .g, 1) := by decide +kernel
theorem dX11_doubleBits_3 : decode cX11_doubleBits 3 = .ok (.ifCond .gt 5, 3) := by decide +kernel
theorem dX11_doubleBits_6 : decode cX11_doubleBits 6 = .ok (.lconst 0, 1) := by decide +kernel
theorem dX11_doubleBits_7 : decode cX11_doubleBits 7 = .ok (.lreturn, 1) := by decide +kernel
theorem dX11_doubleBits_8 : decode cX11_doubleBits 8 = .ok (.dload_n 0, 1) := by decide +kernel
theorem dX11_doubleBits_9 : decode cX11_doubleBits 9 = .ok (.dstore_n 2, 1) := by decide +kernel
theorem dX11_doubleBits_10 : decode cX11_doubleBits 10 = .ok (.ldc2_w 624, 3) := by decide +kernel
theorem dX11_doubleBits_13 : decode cX11_doubleBits 13 = .ok (.lstore 4, 2) := by decide +kernel
theorem dX11_doubleBits_15 : decode cX11_doubleBits 15 = .ok (.iconst 0, 1) := by decide +kernel
theorem dX11_doubleBits_16 : decode cX11_doubleBits 16 = .ok (.istore 6, 2) := by decide +kernel
theorem dX11_doubleBits_18 : decode cX11_doubleBits 18 = .ok (.iload 6, 2) := by decide +kernel
theorem dX11_doubleBits_20 : decode cX11_doubleBits 20 = .ok (.sipush 1022, 3) := by decide +kernel
theorem dX11_doubleBits_23 : decode cX11_doubleBits 23 = .ok (.if_icmp .ge 27, 3) := by decide +kernel
theorem dX11_doubleBits_26 : decode cX11_doubleBits 26 = .ok (.dload_n 2, 1) := by decide +kernel
theorem dX11_doubleBits_27 : decode cX11_doubleBits 27 = .ok (.dconst 1, 1) := by decide +kernel
theorem dX11_doubleBits_28 : decode cX11_doubleBits 28 = .ok (.dcmp .g, 1) := by decide +kernel
theorem dX11_doubleBits_29 : decode cX11_doubleBits 29 = .ok (.ifCond .ge 21, 3) := by decide +kernel
theorem dX11_doubleBits_32 : decode cX11_doubleBits 32 = .ok (.dload_n 2, 1) := by decide +kernel
theorem dX11_doubleBits_33 : decode cX11_doubleBits 33 = .ok (.ldc2_w 620, 3) := by decide +kernel
theorem dX11_doubleBits_36 : decode cX11_doubleBits 36 = .ok (.dmul, 1) := by decide +kernel
theorem dX11_doubleBits_37 : decode cX11_doubleBits 37 = .ok (.dstore_n 2, 1) := by decide +kernel
theorem dX11_doubleBits_38 : decode cX11_doubleBits 38 = .ok (.lload 4, 2) := by decide +kernel
theorem dX11_doubleBits_40 : decode cX11_doubleBits 40 = .ok (.lconst 1, 1) := by decide +kernel
theorem dX11_doubleBits_41 : decode cX11_doubleBits 41 = .ok (.lsub, 1) := by decide +kernel
theorem dX11_doubleBits_42 : decode cX11_doubleBits 42 = .ok (.lstore 4, 2) := by decide +kernel
theorem dX11_doubleBits_44 : decode cX11_doubleBits 44 = .ok (.iinc 6 1, 3) := by decide +kernel
theorem dX11_doubleBits_47 : decode cX11_doubleBits 47 = .ok (.goto (-29), 3) := by decide +kernel
theorem dX11_doubleBits_50 : decode cX11_doubleBits 50 = .ok (.lload 4, 2) := by decide +kernel
theorem dX11_doubleBits_52 : decode cX11_doubleBits 52 = .ok (.bipush 52, 2) := by decide +kernel
theorem dX11_doubleBits_54 : decode cX11_doubleBits 54 = .ok (.lshl, 1) := by decide +kernel
theorem dX11_doubleBits_55 : decode cX11_doubleBits 55 = .ok (.dload_n 2, 1) := by decide +kernel
theorem dX11_doubleBits_56 : decode cX11_doubleBits 56 = .ok (.dconst 1, 1) := by decide +kernel
theorem dX11_doubleBits_57 : decode cX11_doubleBits 57 = .ok (.dsub, 1) := by decide +kernel
theorem dX11_doubleBits_58 : decode cX11_doubleBits 58 = .ok (.ldc2_w 626, 3) := by decide +kernel
theorem dX11_doubleBits_61 : decode cX11_doubleBits 61 = .ok (.dmul, 1) := by decide +kernel
theorem dX11_doubleBits_62 : decode cX11_doubleBits 62 = .ok (.d2l, 1) := by decide +kernel
theorem dX11_doubleBits_63 : decode cX11_doubleBits 63 = .ok (.lor, 1) := by decide +kernel
theorem dX11_doubleBits_64 : decode cX11_doubleBits 64 = .ok (.lreturn, 1) := by decide +kernel
def P_X11_doubleBits_18 (sh : gS) (Q : Option gV → gS → gM → Prop) (x0 x2 x4 x6 : Int) (M : gM) : Prop := gA (gr 0 0) yX11_doubleBits cX11_doubleBits 7 (some (.long)) Q (0, 0) 18 [(3, x0), (9, 0), (3, x2), (9, 0), (1, x4), (9, 0), (0, x6)] [] sh M
theorem w_X11_doubleBits_18 {sh : gS} {Q : Option gV → gS → gM → Prop} {x0 x2 x4 x6 : Int} {M : gM} (hOK : gOK sh M) (h : (if x6 < 1022 then
    (if (Op.cmpValue (FP.dcmp (gU64 x2) (gU64 (gdb FP.dconst1))) .g).toInt < 0 then
      ((vf_n64 (FP.dmul (gU64 x2) (gU64 (gdb 4611686018427387904)))) ∧
        (P_X11_doubleBits_18 sh Q x0 (gdb (FP.dmul (gU64 x2) (gU64 (gdb 4611686018427387904)))) (glsub x4 1) (gw32 (x6 + 1)) M))
    else
      ((vf_n64 (FP.dsub (gU64 x2) (gU64 (gdb FP.dconst1)))) ∧
        ((vf_n64 (FP.dmul (gU64 (gdb (FP.dsub (gU64 x2) (gU64 (gdb FP.dconst1))))) (gU64 (gdb 4841369599423283200)))) ∧
          (Q (some (1, (glor (glshl x4 52) ((FP.d2l (gU64 (gdb (FP.dmul (gU64 (gdb (FP.dsub (gU64 x2) (gU64 (gdb FP.dconst1))))) (gU64 (gdb 4841369599423283200)))))).toInt)))) sh M))))
  else
    ((vf_n64 (FP.dsub (gU64 x2) (gU64 (gdb FP.dconst1)))) ∧
      ((vf_n64 (FP.dmul (gU64 (gdb (FP.dsub (gU64 x2) (gU64 (gdb FP.dconst1))))) (gU64 (gdb 4841369599423283200)))) ∧
        (Q (some (1, (glor (glshl x4 52) ((FP.d2l (gU64 (gdb (FP.dmul (gU64 (gdb (FP.dsub (gU64 x2) (gU64 (gdb FP.dconst1))))) (gU64 (gdb 4841369599423283200)))))).toInt)))) sh M))))) : P_X11_doubleBits_18 sh Q x0 x2 x4 x6 M := by
  unfold P_X11_doubleBits_18
  refine g_iload (q0 := 20) (j := 6) rfl dX11_doubleBits_18 rfl ?_
  refine g_sipush (q0 := 23) rfl dX11_doubleBits_20 (k := ?_)
  refine g_icmp_ge (q0 := 26) (tgt := 50) rfl dX11_doubleBits_23 (by decide) (fun h23 => ?_) (fun h23 => ?_)
  · replace h := wI_neg (Int.not_lt.mpr h23) h
    refine g_lload (q0 := 52) (j := 4) rfl dX11_doubleBits_50 rfl ?_
    refine g_bipush (q0 := 54) rfl dX11_doubleBits_52 (k := ?_)
    refine g_lshl (q0 := 55) rfl dX11_doubleBits_54 ?_
    refine g_dload_n (q0 := 56) (j := 2) rfl dX11_doubleBits_55 rfl ?_
    refine g_dconst1 (q0 := 57) rfl dX11_doubleBits_56 ?_
    obtain ⟨g1, h⟩ := h
    refine g_dsub (q0 := 58) rfl dX11_doubleBits_57 g1 ?_
    refine g_ldc2d (q0 := 61) rfl co_X11_626 dX11_doubleBits_58 ?_
    obtain ⟨g2, h⟩ := h
    refine g_dmul (q0 := 62) rfl dX11_doubleBits_61 g2 ?_
    refine g_d2l (q0 := 63) rfl dX11_doubleBits_62 ?_
    refine g_lor (q0 := 64) rfl dX11_doubleBits_63 ?_
    exact g_lreturn dX11_doubleBits_64 rfl ⟨Nat.zero_le _, Nat.zero_le _⟩ h
  · replace h := wI_pos h23 h
    refine g_dload_n (q0 := 27) (j := 2) rfl dX11_doubleBits_26 rfl ?_
    refine g_dconst1 (q0 := 28) rfl dX11_doubleBits_27 ?_
    refine g_dcmp (q0 := 29) rfl dX11_doubleBits_28 ?_
    refine g_if_ge (q0 := 32) (tgt := 50) rfl dX11_doubleBits_29 (by decide) (fun h29 => ?_) (fun h29 => ?_)
    · replace h := wI_neg (Int.not_lt.mpr h29) h
      refine g_lload (q0 := 52) (j := 4) rfl dX11_doubleBits_50 rfl ?_
      refine g_bipush (q0 := 54) rfl dX11_doubleBits_52 (k := ?_)
      refine g_lshl (q0 := 55) rfl dX11_doubleBits_54 ?_
      refine g_dload_n (q0 := 56) (j := 2) rfl dX11_doubleBits_55 rfl ?_
      refine g_dconst1 (q0 := 57) rfl dX11_doubleBits_56 ?_
      obtain ⟨g3, h⟩ := h
      refine g_dsub (q0 := 58) rfl dX11_doubleBits_57 g3 ?_
      refine g_ldc2d (q0 := 61) rfl co_X11_626 dX11_doubleBits_58 ?_
      obtain ⟨g4, h⟩ := h
      refine g_dmul (q0 := 62) rfl dX11_doubleBits_61 g4 ?_
      refine g_d2l (q0 := 63) rfl dX11_doubleBits_62 ?_
      refine g_lor (q0 := 64) rfl dX11_doubleBits_63 ?_
      exact g_lreturn dX11_doubleBits_64 rfl ⟨Nat.zero_le _, Nat.zero_le _⟩ h
    · replace h := wI_pos h29 h
      refine g_dload_n (q0 := 33) (j := 2) rfl dX11_doubleBits_32 rfl ?_
      refine g_ldc2d (q0 := 36) rfl co_X11_620 dX11_doubleBits_33 ?_
      obtain ⟨g5, h⟩ := h
      refine g_dmul (q0 := 37) rfl dX11_doubleBits_36 g5 ?_
      refine g_dstore_n (q0 := 38) (j := 2) (lv2 := [_, _, _, _, _, _, _]) rfl dX11_doubleBits_37 (by decide) rfl rfl ?_
      refine g_lload (q0 := 40) (j := 4) rfl dX11_doubleBits_38 rfl ?_
      refine g_lconst (q0 := 41) (z := 1) rfl dX11_doubleBits_40 (k := ?_)
      refine g_lsub (q0 := 42) rfl dX11_doubleBits_41 ?_
      refine g_lstore (q0 := 44) (j := 4) (lv2 := [_, _, _, _, _, _, _]) rfl dX11_doubleBits_42 (by decide) rfl rfl ?_
      refine g_iincw (q0 := 47) (lv2 := [_, _, _, _, _, _, _]) rfl dX11_doubleBits_44 rfl (by decide) rfl rfl ?_
      refine g_goto (tgt := 18) dX11_doubleBits_47 (by decide) ?_
      exact h
theorem w_X11_doubleBits {sh : gS} {Q : Option gV → gS → gM → Prop} {a0 : Int} {M : gM} (hOK : gOK sh M) (h : (if (0 : Int) < (Op.cmpValue (FP.dcmp (gU64 a0) (gU64 (gdb FP.dconst0))) .g).toInt then
    (P_X11_doubleBits_18 sh Q a0 a0 1023 0 M)
  else
    (Q (some (1, 0)) sh M))) : gC (gr 0 0) yX11_doubleBits cX11_doubleBits 7 (some (.long)) [(3, a0)] sh M Q := by
  refine gC_ofA (lv := [_, _, _, _, _, _, _]) (by decide +kernel) (Nat.le_of_ble_eq_true rfl) rfl (fun hMw hav => ?_)
  refine g_dload_n (q0 := 1) (j := 0) rfl dX11_doubleBits_0 rfl ?_
  refine g_dconst0 (q0 := 2) rfl dX11_doubleBits_1 ?_
  refine g_dcmp (q0 := 3) rfl dX11_doubleBits_2 ?_
  refine g_if_gt (q0 := 6) (tgt := 8) rfl dX11_doubleBits_3 (by decide) (fun h3 => ?_) (fun h3 => ?_)
  · replace h := wI_pos h3 h
    refine g_dload_n (q0 := 9) (j := 0) rfl dX11_doubleBits_8 rfl ?_
    refine g_dstore_n (q0 := 10) (j := 2) (lv2 := [_, _, _, _, _, _, _]) rfl dX11_doubleBits_9 (by decide) rfl rfl ?_
    refine g_ldc2 (q0 := 13) (n := 1023) rfl co_X11_624 dX11_doubleBits_10 (k := ?_)
    refine g_lstore (q0 := 15) (j := 4) (lv2 := [_, _, _, _, _, _, _]) rfl dX11_doubleBits_13 (by decide) rfl rfl ?_
    refine g_iconst (q0 := 16) rfl dX11_doubleBits_15 (k := ?_)
    refine g_istore (q0 := 18) (j := 6) (lv2 := [_, _, _, _, _, _, _]) rfl dX11_doubleBits_16 (by decide) rfl rfl ?_
    exact h
  · replace h := wI_neg (Int.not_lt.mpr h3) h
    refine g_lconst (q0 := 7) (z := 0) rfl dX11_doubleBits_6 (k := ?_)
    exact g_lreturn dX11_doubleBits_7 rfl ⟨Nat.zero_le _, Nat.zero_le _⟩ h
