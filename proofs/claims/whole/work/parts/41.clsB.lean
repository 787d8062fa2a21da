-- ==== X8_isSkipped
theorem dX8_isSkipped_0 : decode cX8_isSkipped 0 = .ok (.aload_n 1, 1) := by decide +kernel
theorem dX8_isSkipped_1 : decode cX8_isSkipped 1 = .ok (.getfield 235, 3) := by decide +kernel
theorem dX8_isSkipped_4 : decode cX8_isSkipped 4 = .ok (.aload_n 0, 1) := by decide +kernel
theorem dX8_isSkipped_5 : decode cX8_isSkipped 5 = .ok (.getfield 12, 3) := by decide +kernel
theorem dX8_isSkipped_8 : decode cX8_isSkipped 8 = .ok (.getfield 112, 3) := by decide +kernel
theorem dX8_isSkipped_11 : decode cX8_isSkipped 11 = .ok (.iload_n 2, 1) := by decide +kernel
theorem dX8_isSkipped_12 : decode cX8_isSkipped 12 = .ok (.iaload, 1) := by decide +kernel
theorem dX8_isSkipped_13 : decode cX8_isSkipped 13 = .ok (.iushr, 1) := by decide +kernel
theorem dX8_isSkipped_14 : decode cX8_isSkipped 14 = .ok (.iconst 1, 1) := by decide +kernel
theorem dX8_isSkipped_15 : decode cX8_isSkipped 15 = .ok (.iand, 1) := by decide +kernel
theorem dX8_isSkipped_16 : decode cX8_isSkipped 16 = .ok (.ifCond .ne 19, 3) := by decide +kernel
theorem dX8_isSkipped_19 : decode cX8_isSkipped 19 = .ok (.aload_n 0, 1) := by decide +kernel
theorem dX8_isSkipped_20 : decode cX8_isSkipped 20 = .ok (.getfield 12, 3) := by decide +kernel
theorem dX8_isSkipped_23 : decode cX8_isSkipped 23 = .ok (.getfield 121, 3) := by decide +kernel
theorem dX8_isSkipped_26 : decode cX8_isSkipped 26 = .ok (.iload_n 2, 1) := by decide +kernel
theorem dX8_isSkipped_27 : decode cX8_isSkipped 27 = .ok (.iaload, 1) := by decide +kernel
theorem dX8_isSkipped_28 : decode cX8_isSkipped 28 = .ok (.aload_n 1, 1) := by decide +kernel
theorem dX8_isSkipped_29 : decode cX8_isSkipped 29 = .ok (.getfield 238, 3) := by decide +kernel
theorem dX8_isSkipped_32 : decode cX8_isSkipped 32 = .ok (.if_icmp .ge 7, 3) := by decide +kernel
theorem dX8_isSkipped_35 : decode cX8_isSkipped 35 = .ok (.iconst 1, 1) := by decide +kernel
theorem dX8_isSkipped_36 : decode cX8_isSkipped 36 = .ok (.goto 4, 3) := by decide +kernel
theorem dX8_isSkipped_39 : decode cX8_isSkipped 39 = .ok (.iconst 0, 1) := by decide +kernel
theorem dX8_isSkipped_40 : decode cX8_isSkipped 40 = .ok (.istore_n 3, 1) := by decide +kernel
theorem dX8_isSkipped_41 : decode cX8_isSkipped 41 = .ok (.iload_n 3, 1) := by decide +kernel
theorem dX8_isSkipped_42 : decode cX8_isSkipped 42 = .ok (.ifCond .eq 18, 3) := by decide +kernel
theorem dX8_isSkipped_45 : decode cX8_isSkipped 45 = .ok (.aload_n 0, 1) := by decide +kernel
theorem dX8_isSkipped_46 : decode cX8_isSkipped 46 = .ok (.getfield 21, 3) := by decide +kernel
theorem dX8_isSkipped_49 : decode cX8_isSkipped 49 = .ok (.getfield 158, 3) := by decide +kernel
theorem dX8_isSkipped_52 : decode cX8_isSkipped 52 = .ok (.iconst 1, 1) := by decide +kernel
theorem dX8_isSkipped_53 : decode cX8_isSkipped 53 = .ok (.if_icmp .gt 7, 3) := by decide +kernel
theorem dX8_isSkipped_56 : decode cX8_isSkipped 56 = .ok (.iconst 1, 1) := by decide +kernel
theorem dX8_isSkipped_57 : decode cX8_isSkipped 57 = .ok (.goto 4, 3) := by decide +kernel
theorem dX8_isSkipped_60 : decode cX8_isSkipped 60 = .ok (.iconst 0, 1) := by decide +kernel
theorem dX8_isSkipped_61 : decode cX8_isSkipped 61 = .ok (.ireturn, 1) := by decide +kernel
def P_X8_isSkipped_35 (sh : gS) (Q : Option gV → gS → gM → Prop) (x1 x2 : Int) (M : gM) : Prop := gA (gr 0 0) yX8_isSkipped cX8_isSkipped 4 (some (.boolean)) Q (0, 0) 35 [(4, 3), (4, x1), (0, x2), (9, 0)] [] sh M
theorem w_X8_isSkipped_35 {sh : gS} {Q : Option gV → gS → gM → Prop} {x1 x2 : Int} {M : gM} (hOK : gOK sh M) (h : (if (1 : Int) < (M 380 1) then
    (Q (some (0, 0)) sh M)
  else
    (Q (some (0, 1)) sh M))) : P_X8_isSkipped_35 sh Q x1 x2 M := by
  unfold P_X8_isSkipped_35
  refine g_iconst (q0 := 36) rfl dX8_isSkipped_35 (k := ?_)
  refine g_goto (tgt := 40) dX8_isSkipped_36 (by decide) ?_
  refine g_istore_n (q0 := 41) (j := 3) (lv2 := [_, _, _, _]) rfl dX8_isSkipped_40 (by decide) rfl rfl ?_
  refine g_iload_n (q0 := 42) (j := 3) rfl dX8_isSkipped_41 rfl ?_
  refine g_if_eq (q0 := 45) (tgt := 60) rfl dX8_isSkipped_42 (by decide) (fun h42 => ?_) (fun h42 => ?_)
  · exact absurd h42 (by decide)
  · refine g_aload_n (q0 := 46) (j := 0) rfl dX8_isSkipped_45 rfl ?_
    refine g_getp (q0 := 49) (b := 380) rfl ff_X8_21 dX8_isSkipped_46 rfl hOK (by decide) (sh_3 hOK) rfl (by decide) ?_
    refine g_getf (q0 := 52) (t := 0) (fi := 1) rfl rfl ff_X8_158 dX8_isSkipped_49 rfl (sh_380 hOK) ?_
    refine g_iconst (q0 := 53) rfl dX8_isSkipped_52 (k := ?_)
    refine g_icmp_gt (q0 := 56) (tgt := 60) rfl dX8_isSkipped_53 (by decide) (fun h53 => ?_) (fun h53 => ?_)
    · replace h := wI_pos h53 h
      refine g_iconst (q0 := 61) rfl dX8_isSkipped_60 (k := ?_)
      exact g_zreturn dX8_isSkipped_61 rfl (gnz (Or.inl rfl)) ⟨Nat.zero_le _, Nat.zero_le _⟩ h
    · replace h := wI_neg (Int.not_lt.mpr h53) h
      refine g_iconst (q0 := 57) rfl dX8_isSkipped_56 (k := ?_)
      refine g_goto (tgt := 61) dX8_isSkipped_57 (by decide) ?_
      exact g_zreturn dX8_isSkipped_61 rfl (gnz (Or.inr rfl)) ⟨Nat.zero_le _, Nat.zero_le _⟩ h
theorem w_X8_isSkipped {sh : gS} {Q : Option gV → gS → gM → Prop} {a1 a2 : Int} {M : gM} (hOK : gOK sh M) (h : ((gsh sh a1 = some (0, 6) ∧ a1 < 758) ∧
    ((0 ≤ a2 ∧ a2 < 120) ∧
      (if (gand (gushr (M a1 11) (M 11 a2)) 1) = 0 then
        (if (M 12 a2) < (M a1 15) then
          (P_X8_isSkipped_35 sh Q a1 a2 M)
        else
          (Q (some (0, 0)) sh M))
      else
        (P_X8_isSkipped_35 sh Q a1 a2 M))))) : gC (gr 0 0) yX8_isSkipped cX8_isSkipped 4 (some (.boolean)) [(4, 3), (4, a1), (0, a2)] sh M Q := by
  refine gC_ofA (lv := [_, _, _, _]) (by decide +kernel) (Nat.le_of_ble_eq_true rfl) rfl (fun hMw hav => ?_)
  refine g_aload_n (q0 := 1) (j := 1) rfl dX8_isSkipped_0 rfl ?_
  obtain ⟨g1, h⟩ := h
  refine g_getf (q0 := 4) (t := 0) (fi := 11) rfl rfl ff_X8_235 dX8_isSkipped_1 rfl g1.1 ?_
  refine g_aload_n (q0 := 5) (j := 0) rfl dX8_isSkipped_4 rfl ?_
  refine g_getp (q0 := 8) (b := 4) rfl ff_X8_12 dX8_isSkipped_5 rfl hOK (by decide) (sh_3 hOK) rfl (by decide) ?_
  refine g_getp (q0 := 11) (b := 11) rfl ff_X8_112 dX8_isSkipped_8 rfl hOK (by decide) (sh_4 hOK) rfl (by decide) ?_
  refine g_iload_n (q0 := 12) (j := 2) rfl dX8_isSkipped_11 rfl ?_
  obtain ⟨g2, h⟩ := h
  refine g_iald (q0 := 13) rfl dX8_isSkipped_12 (sh_11 hOK) g2.1 g2.2 ?_
  refine g_iushr (q0 := 14) rfl dX8_isSkipped_13 ?_
  refine g_iconst (q0 := 15) rfl dX8_isSkipped_14 (k := ?_)
  refine g_iand (q0 := 16) rfl dX8_isSkipped_15 ?_
  refine g_if_ne (q0 := 19) (tgt := 35) rfl dX8_isSkipped_16 (by decide) (fun h16 => ?_) (fun h16 => ?_)
  · replace h := wI_neg h16 h
    exact h
  · replace h := wI_pos h16 h
    refine g_aload_n (q0 := 20) (j := 0) rfl dX8_isSkipped_19 rfl ?_
    refine g_getp (q0 := 23) (b := 4) rfl ff_X8_12 dX8_isSkipped_20 rfl hOK (by decide) (sh_3 hOK) rfl (by decide) ?_
    refine g_getp (q0 := 26) (b := 12) rfl ff_X8_121 dX8_isSkipped_23 rfl hOK (by decide) (sh_4 hOK) rfl (by decide) ?_
    refine g_iload_n (q0 := 27) (j := 2) rfl dX8_isSkipped_26 rfl ?_
    refine g_iald (q0 := 28) rfl dX8_isSkipped_27 (sh_12 hOK) g2.1 g2.2 ?_
    refine g_aload_n (q0 := 29) (j := 1) rfl dX8_isSkipped_28 rfl ?_
    refine g_getf (q0 := 32) (t := 0) (fi := 15) rfl rfl ff_X8_238 dX8_isSkipped_29 rfl g1.1 ?_
    refine g_icmp_ge (q0 := 35) (tgt := 39) rfl dX8_isSkipped_32 (by decide) (fun h32 => ?_) (fun h32 => ?_)
    · replace h := wI_neg (Int.not_lt.mpr h32) h
      refine g_iconst (q0 := 40) rfl dX8_isSkipped_39 (k := ?_)
      refine g_istore_n (q0 := 41) (j := 3) (lv2 := [_, _, _, _]) rfl dX8_isSkipped_40 (by decide) rfl rfl ?_
      refine g_iload_n (q0 := 42) (j := 3) rfl dX8_isSkipped_41 rfl ?_
      refine g_if_eq (q0 := 45) (tgt := 60) rfl dX8_isSkipped_42 (by decide) (fun h42 => ?_) (fun h42 => ?_)
      · refine g_iconst (q0 := 61) rfl dX8_isSkipped_60 (k := ?_)
        exact g_zreturn dX8_isSkipped_61 rfl (gnz (Or.inl rfl)) ⟨Nat.zero_le _, Nat.zero_le _⟩ h
      · exact absurd h42 (by decide)
    · replace h := wI_pos h32 h
      exact h
-- ==== X8_carryMessage
theorem dX8_carryMessage_0 : decode cX8_carryMessage 0 = .ok (.aload_n 0, 1) := by decide +kernel
theorem dX8_carryMessage_1 : decode cX8_carryMessage 1 = .ok (.getfield 12, 3) := by decide +kernel
theorem dX8_carryMessage_4 : decode cX8_carryMessage 4 = .ok (.getfield 241, 3) := by decide +kernel
theorem dX8_carryMessage_7 : decode cX8_carryMessage 7 = .ok (.iload_n 2, 1) := by decide +kernel
theorem dX8_carryMessage_8 : decode cX8_carryMessage 8 = .ok (.iaload, 1) := by decide +kernel
theorem dX8_carryMessage_9 : decode cX8_carryMessage 9 = .ok (.istore_n 3, 1) := by decide +kernel
theorem dX8_carryMessage_10 : decode cX8_carryMessage 10 = .ok (.iconst 0, 1) := by decide +kernel
theorem dX8_carryMessage_11 : decode cX8_carryMessage 11 = .ok (.istore 4, 2) := by decide +kernel
theorem dX8_carryMessage_13 : decode cX8_carryMessage 13 = .ok (.iconst 0, 1) := by decide +kernel
theorem dX8_carryMessage_14 : decode cX8_carryMessage 14 = .ok (.istore 5, 2) := by decide +kernel
theorem dX8_carryMessage_16 : decode cX8_carryMessage 16 = .ok (.iload 5, 2) := by decide +kernel
theorem dX8_carryMessage_18 : decode cX8_carryMessage 18 = .ok (.bipush 24, 2) := by decide +kernel
theorem dX8_carryMessage_20 : decode cX8_carryMessage 20 = .ok (.if_icmp .ge 184, 3) := by decide +kernel
theorem dX8_carryMessage_23 : decode cX8_carryMessage 23 = .ok (.iload 4, 2) := by decide +kernel
theorem dX8_carryMessage_25 : decode cX8_carryMessage 25 = .ok (.iload_n 3, 1) := by decide +kernel
theorem dX8_carryMessage_26 : decode cX8_carryMessage 26 = .ok (.if_icmp .ge 178, 3) := by decide +kernel
theorem dX8_carryMessage_29 : decode cX8_carryMessage 29 = .ok (.aload_n 0, 1) := by decide +kernel
theorem dX8_carryMessage_30 : decode cX8_carryMessage 30 = .ok (.getfield 12, 3) := by decide +kernel
theorem dX8_carryMessage_33 : decode cX8_carryMessage 33 = .ok (.iload_n 2, 1) := by decide +kernel
theorem dX8_carryMessage_34 : decode cX8_carryMessage 34 = .ok (.iload 4, 2) := by decide +kernel
theorem dX8_carryMessage_36 : decode cX8_carryMessage 36 = .ok (.invokevirtual 244, 3) := by decide +kernel
theorem dX8_carryMessage_39 : decode cX8_carryMessage 39 = .ok (.istore 6, 2) := by decide +kernel
theorem dX8_carryMessage_41 : decode cX8_carryMessage 41 = .ok (.aload_n 0, 1) := by decide +kernel
theorem dX8_carryMessage_42 : decode cX8_carryMessage 42 = .ok (.iload_n 2, 1) := by decide +kernel
theorem dX8_carryMessage_43 : decode cX8_carryMessage 43 = .ok (.iload 4, 2) := by decide +kernel
theorem dX8_carryMessage_45 : decode cX8_carryMessage 45 = .ok (.invokevirtual 248, 3) := by decide +kernel
theorem dX8_carryMessage_48 : decode cX8_carryMessage 48 = .ok (.istore 7, 2) := by decide +kernel
theorem dX8_carryMessage_50 : decode cX8_carryMessage 50 = .ok (.iload 6, 2) := by decide +kernel
theorem dX8_carryMessage_52 : decode cX8_carryMessage 52 = .ok (.bipush 35, 2) := by decide +kernel
theorem dX8_carryMessage_54 : decode cX8_carryMessage 54 = .ok (.if_icmp .ne 24, 3) := by decide +kernel
theorem dX8_carryMessage_57 : decode cX8_carryMessage 57 = .ok (.aload_n 0, 1) := by decide +kernel
theorem dX8_carryMessage_58 : decode cX8_carryMessage 58 = .ok (.iload_n 2, 1) := by decide +kernel
theorem dX8_carryMessage_59 : decode cX8_carryMessage 59 = .ok (.iload 4, 2) := by decide +kernel
theorem dX8_carryMessage_61 : decode cX8_carryMessage 61 = .ok (.iconst 1, 1) := by decide +kernel
theorem dX8_carryMessage_62 : decode cX8_carryMessage 62 = .ok (.iadd, 1) := by decide +kernel
theorem dX8_carryMessage_63 : decode cX8_carryMessage 63 = .ok (.iload 7, 2) := by decide +kernel
theorem dX8_carryMessage_65 : decode cX8_carryMessage 65 = .ok (.invokevirtual 251, 3) := by decide +kernel
theorem dX8_carryMessage_68 : decode cX8_carryMessage 68 = .ok (.ifCond .eq 10, 3) := by decide +kernel
theorem dX8_carryMessage_71 : decode cX8_carryMessage 71 = .ok (.iload 7, 2) := by decide +kernel
theorem dX8_carryMessage_73 : decode cX8_carryMessage 73 = .ok (.istore 4, 2) := by decide +kernel
theorem dX8_carryMessage_75 : decode cX8_carryMessage 75 = .ok (.goto 123, 3) := by decide +kernel
theorem dX8_carryMessage_78 : decode cX8_carryMessage 78 = .ok (.iload 6, 2) := by decide +kernel
theorem dX8_carryMessage_80 : decode cX8_carryMessage 80 = .ok (.bipush 97, 2) := by decide +kernel
theorem dX8_carryMessage_82 : decode cX8_carryMessage 82 = .ok (.if_icmp .lt 31, 3) := by decide +kernel
theorem dX8_carryMessage_85 : decode cX8_carryMessage 85 = .ok (.iload 6, 2) := by decide +kernel
theorem dX8_carryMessage_87 : decode cX8_carryMessage 87 = .ok (.bipush 122, 2) := by decide +kernel
theorem dX8_carryMessage_89 : decode cX8_carryMessage 89 = .ok (.if_icmp .gt 24, 3) := by decide +kernel
theorem dX8_carryMessage_92 : decode cX8_carryMessage 92 = .ok (.iload 7, 2) := by decide +kernel
theorem dX8_carryMessage_94 : decode cX8_carryMessage 94 = .ok (.iload 4, 2) := by decide +kernel
theorem dX8_carryMessage_96 : decode cX8_carryMessage 96 = .ok (.isub, 1) := by decide +kernel
theorem dX8_carryMessage_97 : decode cX8_carryMessage 97 = .ok (.iconst 4, 1) := by decide +kernel
theorem dX8_carryMessage_98 : decode cX8_carryMessage 98 = .ok (.if_icmp .gt 15, 3) := by decide +kernel
theorem dX8_carryMessage_101 : decode cX8_carryMessage 101 = .ok (.aload_n 0, 1) := by decide +kernel
theorem dX8_carryMessage_102 : decode cX8_carryMessage 102 = .ok (.iload_n 2, 1) := by decide +kernel
theorem dX8_carryMessage_103 : decode cX8_carryMessage 103 = .ok (.iload 4, 2) := by decide +kernel
theorem dX8_carryMessage_105 : decode cX8_carryMessage 105 = .ok (.iload 7, 2) := by decide +kernel
theorem dX8_carryMessage_107 : decode cX8_carryMessage 107 = .ok (.invokevirtual 255, 3) := by decide +kernel
theorem dX8_carryMessage_110 : decode cX8_carryMessage 110 = .ok (.goto 4, 3) := by decide +kernel
theorem dX8_carryMessage_113 : decode cX8_carryMessage 113 = .ok (.iconst (-1), 1) := by decide +kernel
theorem dX8_carryMessage_114 : decode cX8_carryMessage 114 = .ok (.istore 8, 2) := by decide +kernel
theorem dX8_carryMessage_116 : decode cX8_carryMessage 116 = .ok (.iload 8, 2) := by decide +kernel
theorem dX8_carryMessage_118 : decode cX8_carryMessage 118 = .ok (.ifCond .ge 7, 3) := by decide +kernel
theorem dX8_carryMessage_121 : decode cX8_carryMessage 121 = .ok (.iconst (-1), 1) := by decide +kernel
theorem dX8_carryMessage_122 : decode cX8_carryMessage 122 = .ok (.goto 12, 3) := by decide +kernel
theorem dX8_carryMessage_125 : decode cX8_carryMessage 125 = .ok (.aload_n 1, 1) := by decide +kernel
theorem dX8_carryMessage_126 : decode cX8_carryMessage 126 = .ok (.getfield 259, 3) := by decide +kernel
theorem dX8_carryMessage_129 : decode cX8_carryMessage 129 = .ok (.iload 8, 2) := by decide +kernel
theorem dX8_carryMessage_131 : decode cX8_carryMessage 131 = .ok (.invokevirtual 262, 3) := by decide +kernel
theorem dX8_carryMessage_134 : decode cX8_carryMessage 134 = .ok (.istore 9, 2) := by decide +kernel
theorem dX8_carryMessage_136 : decode cX8_carryMessage 136 = .ok (.iload 9, 2) := by decide +kernel
theorem dX8_carryMessage_138 : decode cX8_carryMessage 138 = .ok (.ifCond .lt 17, 3) := by decide +kernel
theorem dX8_carryMessage_141 : decode cX8_carryMessage 141 = .ok (.aload_n 0, 1) := by decide +kernel
theorem dX8_carryMessage_142 : decode cX8_carryMessage 142 = .ok (.aload_n 1, 1) := by decide +kernel
theorem dX8_carryMessage_143 : decode cX8_carryMessage 143 = .ok (.getfield 259, 3) := by decide +kernel
theorem dX8_carryMessage_146 : decode cX8_carryMessage 146 = .ok (.getfield 265, 3) := by decide +kernel
theorem dX8_carryMessage_149 : decode cX8_carryMessage 149 = .ok (.iload 9, 2) := by decide +kernel
theorem dX8_carryMessage_151 : decode cX8_carryMessage 151 = .ok (.iaload, 1) := by decide +kernel
theorem dX8_carryMessage_152 : decode cX8_carryMessage 152 = .ok (.invokevirtual 268, 3) := by decide +kernel
theorem dX8_carryMessage_155 : decode cX8_carryMessage 155 = .ok (.iload 4, 2) := by decide +kernel
theorem dX8_carryMessage_157 : decode cX8_carryMessage 157 = .ok (.istore 10, 2) := by decide +kernel
theorem dX8_carryMessage_159 : decode cX8_carryMessage 159 = .ok (.iload 9, 2) := by decide +kernel
theorem dX8_carryMessage_161 : decode cX8_carryMessage 161 = .ok (.ifCond .ge 33, 3) := by decide +kernel
theorem dX8_carryMessage_164 : decode cX8_carryMessage 164 = .ok (.iload 10, 2) := by decide +kernel
theorem dX8_carryMessage_166 : decode cX8_carryMessage 166 = .ok (.iload 7, 2) := by decide +kernel
theorem dX8_carryMessage_168 : decode cX8_carryMessage 168 = .ok (.if_icmp .ge 26, 3) := by decide +kernel
theorem dX8_carryMessage_171 : decode cX8_carryMessage 171 = .ok (.aload_n 0, 1) := by decide +kernel
theorem dX8_carryMessage_172 : decode cX8_carryMessage 172 = .ok (.getfield 21, 3) := by decide +kernel
theorem dX8_carryMessage_175 : decode cX8_carryMessage 175 = .ok (.aload_n 0, 1) := by decide +kernel
theorem dX8_carryMessage_176 : decode cX8_carryMessage 176 = .ok (.getfield 12, 3) := by decide +kernel
theorem dX8_carryMessage_179 : decode cX8_carryMessage 179 = .ok (.iload_n 2, 1) := by decide +kernel
theorem dX8_carryMessage_180 : decode cX8_carryMessage 180 = .ok (.iload 10, 2) := by decide +kernel
theorem dX8_carryMessage_182 : decode cX8_carryMessage 182 = .ok (.invokevirtual 244, 3) := by decide +kernel
theorem dX8_carryMessage_185 : decode cX8_carryMessage 185 = .ok (.invokevirtual 271, 3) := by decide +kernel
theorem dX8_carryMessage_188 : decode cX8_carryMessage 188 = .ok (.iinc 10 1, 3) := by decide +kernel
theorem dX8_carryMessage_191 : decode cX8_carryMessage 191 = .ok (.goto (-32), 3) := by decide +kernel
theorem dX8_carryMessage_194 : decode cX8_carryMessage 194 = .ok (.iload 7, 2) := by decide +kernel
theorem dX8_carryMessage_196 : decode cX8_carryMessage 196 = .ok (.istore 4, 2) := by decide +kernel
theorem dX8_carryMessage_198 : decode cX8_carryMessage 198 = .ok (.iinc 5 1, 3) := by decide +kernel
theorem dX8_carryMessage_201 : decode cX8_carryMessage 201 = .ok (.goto (-185), 3) := by decide +kernel
theorem dX8_carryMessage_204 : decode cX8_carryMessage 204 = .ok (.return_, 1) := by decide +kernel
def P_X8_carryMessage_16 (sh : gS) (Q : Option gV → gS → gM → Prop) (x1 x2 x3 x4 x5 : Int) (M : gM) : Prop := gA (gr 2 51) yX8_carryMessage cX8_carryMessage 11 none Q (0, 0) 16 [(4, 3), (4, x1), (0, x2), (0, x3), (0, x4), (0, x5), (9, 0), (9, 0), (9, 0), (9, 0), (9, 0)] [] sh M
def P_X8_carryMessage_78 (sh : gS) (Q : Option gV → gS → gM → Prop) (x1 x2 x3 x4 x5 x6 x7 : Int) (M : gM) : Prop := gA (gr 2 51) yX8_carryMessage cX8_carryMessage 11 none Q (0, 0) 78 [(4, 3), (4, x1), (0, x2), (0, x3), (0, x4), (0, x5), (0, x6), (0, x7), (9, 0), (9, 0), (9, 0)] [] sh M
def P_X8_carryMessage_114 (sh : gS) (Q : Option gV → gS → gM → Prop) (x1 x2 x3 x4 x5 x6 x7 s0 : Int) (M : gM) : Prop := gA (gr 2 51) yX8_carryMessage cX8_carryMessage 11 none Q (0, 0) 114 [(4, 3), (4, x1), (0, x2), (0, x3), (0, x4), (0, x5), (0, x6), (0, x7), (9, 0), (9, 0), (9, 0)] [(0, s0)] sh M
def P_X8_carryMessage_159 (sh : gS) (Q : Option gV → gS → gM → Prop) (x1 x2 x3 x4 x5 x6 x7 x8 x9 x10 : Int) (M : gM) : Prop := gA (gr 2 51) yX8_carryMessage cX8_carryMessage 11 none Q (0, 0) 159 [(4, 3), (4, x1), (0, x2), (0, x3), (0, x4), (0, x5), (0, x6), (0, x7), (0, x8), (0, x9), (0, x10)] [] sh M
theorem w_X8_carryMessage_16 {sh : gS} {Q : Option gV → gS → gM → Prop} {x1 x2 x3 x4 x5 : Int} {M : gM} (hOK : gOK sh M) (h : (if x5 < 24 then
    (if x4 < x3 then
      (∃ v36 : Int, gC (gr 0 0) yX1_messageByte cX1_messageByte 3 (some (.int)) [(4, 4), (0, x2), (0, x4)] sh M (gPp sh M (0, v36)) ∧
        (∃ v45 : Int, gC (gr 1 22) yX8_endOfPiece cX8_endOfPiece 7 (some (.int)) [(4, 3), (0, x2), (0, x4)] sh M (gPp sh M (0, v45)) ∧
          (if v36 = 35 then
            (∃ P65 : Option gV → gM → Prop, gC (gr 1 23) yX8_carryMention cX8_carryMention 9 (some (.boolean)) [(4, 3), (0, x2), (0, (gw32 (x4 + (1 : Int)))), (0, v45)] sh M (gPm sh P65) ∧ ∀ (r65 : Option gV) (M65 : gM), P65 r65 M65 → ∃ v65 : Int, r65 = some (0, v65) ∧ gOK sh M65 ∧
              (if v65 = 0 then
                (P_X8_carryMessage_78 sh Q x1 x2 x3 x4 x5 v36 v45 M65)
              else
                (P_X8_carryMessage_16 sh Q x1 x2 x3 v45 (gw32 (x5 + 1)) M65)))
          else
            (P_X8_carryMessage_78 sh Q x1 x2 x3 x4 x5 v36 v45 M))))
    else
      (Q none sh M))
  else
    (Q none sh M))) : P_X8_carryMessage_16 sh Q x1 x2 x3 x4 x5 M := by
  unfold P_X8_carryMessage_16
  refine g_iload (q0 := 18) (j := 5) rfl dX8_carryMessage_16 rfl ?_
  refine g_bipush (q0 := 20) rfl dX8_carryMessage_18 (k := ?_)
  refine g_icmp_ge (q0 := 23) (tgt := 204) rfl dX8_carryMessage_20 (by decide) (fun h20 => ?_) (fun h20 => ?_)
  · replace h := wI_neg (Int.not_lt.mpr h20) h
    exact g_return dX8_carryMessage_204 rfl ⟨Nat.zero_le _, Nat.zero_le _⟩ h
  · replace h := wI_pos h20 h
    refine g_iload (q0 := 25) (j := 4) rfl dX8_carryMessage_23 rfl ?_
    refine g_iload_n (q0 := 26) (j := 3) rfl dX8_carryMessage_25 rfl ?_
    refine g_icmp_ge (q0 := 29) (tgt := 204) rfl dX8_carryMessage_26 (by decide) (fun h26 => ?_) (fun h26 => ?_)
    · replace h := wI_neg (Int.not_lt.mpr h26) h
      exact g_return dX8_carryMessage_204 rfl ⟨Nat.zero_le _, Nat.zero_le _⟩ h
    · replace h := wI_pos h26 h
      refine g_aload_n (q0 := 30) (j := 0) rfl dX8_carryMessage_29 rfl ?_
      refine g_getp (q0 := 33) (b := 4) rfl ff_X8_12 dX8_carryMessage_30 rfl hOK (by decide) (sh_3 hOK) rfl (by decide) ?_
      refine g_iload_n (q0 := 34) (j := 2) rfl dX8_carryMessage_33 rfl ?_
      refine g_iload (q0 := 36) (j := 4) rfl dX8_carryMessage_34 rfl ?_
      obtain ⟨v36, e36, h⟩ := h
      refine g_callVp (as := [_, _]) (rest := []) mt_X1_messageByte mi_X1_messageByte se_X1_messageByte ml_X8_244 dX8_carryMessage_36 (q0 := 39) rfl rfl (sh_4 hOK) rfl rfl e36 rfl ⟨by decide, by decide⟩ (Nat.le_of_ble_eq_true rfl) ⟨Nat.zero_le _, Nat.zero_le _⟩ (fun _ => ?_)
      refine g_istore (q0 := 41) (j := 6) (lv2 := [_, _, _, _, _, _, _, _, _, _, _]) rfl dX8_carryMessage_39 (by decide) rfl rfl ?_
      refine g_aload_n (q0 := 42) (j := 0) rfl dX8_carryMessage_41 rfl ?_
      refine g_iload_n (q0 := 43) (j := 2) rfl dX8_carryMessage_42 rfl ?_
      refine g_iload (q0 := 45) (j := 4) rfl dX8_carryMessage_43 rfl ?_
      obtain ⟨v45, e45, h⟩ := h
      refine g_callVp (as := [_, _]) (rest := []) mt_X8_endOfPiece mi_X8_endOfPiece se_X8_endOfPiece ml_X8_248 dX8_carryMessage_45 (q0 := 48) rfl rfl (sh_3 hOK) rfl rfl e45 rfl ⟨by decide, by decide⟩ (Nat.le_of_ble_eq_true rfl) ⟨Nat.zero_le _, Nat.zero_le _⟩ (fun _ => ?_)
      refine g_istore (q0 := 50) (j := 7) (lv2 := [_, _, _, _, _, _, _, _, _, _, _]) rfl dX8_carryMessage_48 (by decide) rfl rfl ?_
      refine g_iload (q0 := 52) (j := 6) rfl dX8_carryMessage_50 rfl ?_
      refine g_bipush (q0 := 54) rfl dX8_carryMessage_52 (k := ?_)
      refine g_icmp_ne (q0 := 57) (tgt := 78) rfl dX8_carryMessage_54 (by decide) (fun h54 => ?_) (fun h54 => ?_)
      · replace h := wI_neg h54 h
        exact h
      · replace h := wI_pos h54 h
        refine g_aload_n (q0 := 58) (j := 0) rfl dX8_carryMessage_57 rfl ?_
        refine g_iload_n (q0 := 59) (j := 2) rfl dX8_carryMessage_58 rfl ?_
        refine g_iload (q0 := 61) (j := 4) rfl dX8_carryMessage_59 rfl ?_
        refine g_iconst (q0 := 62) rfl dX8_carryMessage_61 (k := ?_)
        refine g_iaddw (q0 := 63) rfl dX8_carryMessage_62 ?_
        refine g_iload (q0 := 65) (j := 7) rfl dX8_carryMessage_63 rfl ?_
        obtain ⟨P65, e65, h⟩ := h
        refine g_callVm (as := [_, _, _]) (rest := []) mt_X8_carryMention mi_X8_carryMention se_X8_carryMention ml_X8_251 dX8_carryMessage_65 (q0 := 68) rfl rfl (sh_3 hOK) rfl rfl e65 rfl ⟨by decide, by decide⟩ (Nat.le_of_ble_eq_true rfl) ⟨Nat.zero_le _, Nat.zero_le _⟩ (fun r65 M65 hP65 hw65 hMw65 => ?_)
        obtain ⟨v65, hr65, hOK1, h⟩ := h r65 M65 hP65
        subst hr65
        refine g_if_eq (q0 := 71) (tgt := 78) rfl dX8_carryMessage_68 (by decide) (fun h68 => ?_) (fun h68 => ?_)
        · replace h := wI_pos h68 h
          exact h
        · replace h := wI_neg h68 h
          refine g_iload (q0 := 73) (j := 7) rfl dX8_carryMessage_71 rfl ?_
          refine g_istore (q0 := 75) (j := 4) (lv2 := [_, _, _, _, _, _, _, _, _, _, _]) rfl dX8_carryMessage_73 (by decide) rfl rfl ?_
          refine g_goto (tgt := 198) dX8_carryMessage_75 (by decide) ?_
          refine g_iincw (q0 := 201) (lv2 := [_, _, _, _, _, _, _, _, _, _, _]) rfl dX8_carryMessage_198 rfl (by decide) rfl rfl ?_
          refine g_goto (tgt := 16) dX8_carryMessage_201 (by decide) ?_
          refine gA_jk (lv1 := [_, _, _, _, _, _, (9, 0), (9, 0), (9, 0), (9, 0), (9, 0)]) ⟨.inl rfl, .inl rfl, .inl rfl, .inl rfl, .inl rfl, .inl rfl, .inr rfl, .inr rfl, .inr rfl, .inr rfl, .inr rfl, trivial⟩ ?_
          exact h
theorem w_X8_carryMessage_78 {sh : gS} {Q : Option gV → gS → gM → Prop} {x1 x2 x3 x4 x5 x6 x7 : Int} {M : gM} (hOK : gOK sh M) (h : (if x6 < 97 then
    (P_X8_carryMessage_114 sh Q x1 x2 x3 x4 x5 x6 x7 (-1) M)
  else
    (if (122 : Int) < x6 then
      (P_X8_carryMessage_114 sh Q x1 x2 x3 x4 x5 x6 x7 (-1) M)
    else
      (if (4 : Int) < (gw32 (x7 - x4)) then
        (P_X8_carryMessage_114 sh Q x1 x2 x3 x4 x5 x6 x7 (-1) M)
      else
        (∃ v107 : Int, gC (gr 1 22) yX8_wordAt cX8_wordAt 6 (some (.int)) [(4, 3), (0, x2), (0, x4), (0, x7)] sh M (gPp sh M (0, v107)) ∧
          (P_X8_carryMessage_114 sh Q x1 x2 x3 x4 x5 x6 x7 v107 M)))))) : P_X8_carryMessage_78 sh Q x1 x2 x3 x4 x5 x6 x7 M := by
  unfold P_X8_carryMessage_78
  refine g_iload (q0 := 80) (j := 6) rfl dX8_carryMessage_78 rfl ?_
  refine g_bipush (q0 := 82) rfl dX8_carryMessage_80 (k := ?_)
  refine g_icmp_lt (q0 := 85) (tgt := 113) rfl dX8_carryMessage_82 (by decide) (fun h82 => ?_) (fun h82 => ?_)
  · replace h := wI_pos h82 h
    refine g_iconst (q0 := 114) rfl dX8_carryMessage_113 (k := ?_)
    exact h
  · replace h := wI_neg (Int.not_lt.mpr h82) h
    refine g_iload (q0 := 87) (j := 6) rfl dX8_carryMessage_85 rfl ?_
    refine g_bipush (q0 := 89) rfl dX8_carryMessage_87 (k := ?_)
    refine g_icmp_gt (q0 := 92) (tgt := 113) rfl dX8_carryMessage_89 (by decide) (fun h89 => ?_) (fun h89 => ?_)
    · replace h := wI_pos h89 h
      refine g_iconst (q0 := 114) rfl dX8_carryMessage_113 (k := ?_)
      exact h
    · replace h := wI_neg (Int.not_lt.mpr h89) h
      refine g_iload (q0 := 94) (j := 7) rfl dX8_carryMessage_92 rfl ?_
      refine g_iload (q0 := 96) (j := 4) rfl dX8_carryMessage_94 rfl ?_
      refine g_isubw (q0 := 97) rfl dX8_carryMessage_96 ?_
      refine g_iconst (q0 := 98) rfl dX8_carryMessage_97 (k := ?_)
      refine g_icmp_gt (q0 := 101) (tgt := 113) rfl dX8_carryMessage_98 (by decide) (fun h98 => ?_) (fun h98 => ?_)
      · replace h := wI_pos h98 h
        refine g_iconst (q0 := 114) rfl dX8_carryMessage_113 (k := ?_)
        exact h
      · replace h := wI_neg (Int.not_lt.mpr h98) h
        refine g_aload_n (q0 := 102) (j := 0) rfl dX8_carryMessage_101 rfl ?_
        refine g_iload_n (q0 := 103) (j := 2) rfl dX8_carryMessage_102 rfl ?_
        refine g_iload (q0 := 105) (j := 4) rfl dX8_carryMessage_103 rfl ?_
        refine g_iload (q0 := 107) (j := 7) rfl dX8_carryMessage_105 rfl ?_
        obtain ⟨v107, e107, h⟩ := h
        refine g_callVp (as := [_, _, _]) (rest := []) mt_X8_wordAt mi_X8_wordAt se_X8_wordAt ml_X8_255 dX8_carryMessage_107 (q0 := 110) rfl rfl (sh_3 hOK) rfl rfl e107 rfl ⟨by decide, by decide⟩ (Nat.le_of_ble_eq_true rfl) ⟨Nat.zero_le _, Nat.zero_le _⟩ (fun _ => ?_)
        refine g_goto (tgt := 114) dX8_carryMessage_110 (by decide) ?_
        exact h
theorem w_X8_carryMessage_114 {sh : gS} {Q : Option gV → gS → gM → Prop} {x1 x2 x3 x4 x5 x6 x7 s0 : Int} {M : gM} (hOK : gOK sh M) (h : (if s0 < 0 then
    (P_X8_carryMessage_159 sh Q x1 x2 x3 x4 x5 x6 x7 s0 (-1) x4 M)
  else
    ((gsh sh x1 = some (0, 6) ∧ x1 < 758) ∧
      ((gsh sh (x1 + 13) = some (0, 5) ∧ (x1 + 13) < 758) ∧
        (∃ v131 : Int, gC (gr 0 0) yX4_find cX4_find 3 (some (.int)) [(4, (x1 + 13)), (0, s0)] sh M (gPp sh M (0, v131)) ∧
          (if v131 < 0 then
            (P_X8_carryMessage_159 sh Q x1 x2 x3 x4 x5 x6 x7 s0 v131 x4 M)
          else
            (∃ n4 : Nat, gsh sh ((x1 + 13) + 2) = some (1, n4) ∧
              ((0 ≤ v131 ∧ v131 < (n4 : Int)) ∧
                (∃ P152 : Option gV → gM → Prop, gC (gr 1 21) yX8_addWord cX8_addWord 4 none [(4, 3), (0, (M ((x1 + 13) + 2) v131))] sh M (gPm sh P152) ∧ ∀ (r152 : Option gV) (M152 : gM), P152 r152 M152 → r152 = none ∧ gOK sh M152 ∧
                  (P_X8_carryMessage_159 sh Q x1 x2 x3 x4 x5 x6 x7 s0 v131 x4 M152)))))))))) : P_X8_carryMessage_114 sh Q x1 x2 x3 x4 x5 x6 x7 s0 M := by
  unfold P_X8_carryMessage_114
  refine g_istore (q0 := 116) (j := 8) (lv2 := [_, _, _, _, _, _, _, _, _, _, _]) rfl dX8_carryMessage_114 (by decide) rfl rfl ?_
  refine g_iload (q0 := 118) (j := 8) rfl dX8_carryMessage_116 rfl ?_
  refine g_if_ge (q0 := 121) (tgt := 125) rfl dX8_carryMessage_118 (by decide) (fun h118 => ?_) (fun h118 => ?_)
  · replace h := wI_neg (Int.not_lt.mpr h118) h
    refine g_aload_n (q0 := 126) (j := 1) rfl dX8_carryMessage_125 rfl ?_
    obtain ⟨g2, h⟩ := h
    refine g_getp (q0 := 129) (b := (x1 + 13)) rfl ff_X8_259 dX8_carryMessage_126 rfl hOK g2.2 g2.1 rfl rfl ?_
    refine g_iload (q0 := 131) (j := 8) rfl dX8_carryMessage_129 rfl ?_
    obtain ⟨g3, h⟩ := h
    obtain ⟨v131, e131, h⟩ := h
    refine g_callVp (as := [_]) (rest := []) mt_X4_find mi_X4_find se_X4_find ml_X8_262 dX8_carryMessage_131 (q0 := 134) rfl rfl g3.1 rfl rfl e131 rfl ⟨by decide, by decide⟩ (Nat.le_of_ble_eq_true rfl) ⟨Nat.zero_le _, Nat.zero_le _⟩ (fun _ => ?_)
    refine g_istore (q0 := 136) (j := 9) (lv2 := [_, _, _, _, _, _, _, _, _, _, _]) rfl dX8_carryMessage_134 (by decide) rfl rfl ?_
    refine g_iload (q0 := 138) (j := 9) rfl dX8_carryMessage_136 rfl ?_
    refine g_if_lt (q0 := 141) (tgt := 155) rfl dX8_carryMessage_138 (by decide) (fun h138 => ?_) (fun h138 => ?_)
    · replace h := wI_pos h138 h
      refine g_iload (q0 := 157) (j := 4) rfl dX8_carryMessage_155 rfl ?_
      refine g_istore (q0 := 159) (j := 10) (lv2 := [_, _, _, _, _, _, _, _, _, _, _]) rfl dX8_carryMessage_157 (by decide) rfl rfl ?_
      exact h
    · replace h := wI_neg (Int.not_lt.mpr h138) h
      refine g_aload_n (q0 := 142) (j := 0) rfl dX8_carryMessage_141 rfl ?_
      refine g_aload_n (q0 := 143) (j := 1) rfl dX8_carryMessage_142 rfl ?_
      refine g_getp (q0 := 146) (b := (x1 + 13)) rfl ff_X8_259 dX8_carryMessage_143 rfl hOK g2.2 g2.1 rfl rfl ?_
      refine g_getp (q0 := 149) (b := ((x1 + 13) + 2)) rfl ff_X8_265 dX8_carryMessage_146 rfl hOK g3.2 g3.1 rfl rfl ?_
      refine g_iload (q0 := 151) (j := 9) rfl dX8_carryMessage_149 rfl ?_
      obtain ⟨n4, sn4, h⟩ := h
      obtain ⟨g5, h⟩ := h
      refine g_iald (q0 := 152) rfl dX8_carryMessage_151 sn4 g5.1 g5.2 ?_
      obtain ⟨P152, e152, h⟩ := h
      refine g_callVm (as := [_]) (rest := []) mt_X8_addWord mi_X8_addWord se_X8_addWord ml_X8_268 dX8_carryMessage_152 (q0 := 155) rfl rfl (sh_3 hOK) rfl rfl e152 rfl ⟨by decide, by decide⟩ (Nat.le_of_ble_eq_true rfl) ⟨Nat.zero_le _, Nat.zero_le _⟩ (fun r152 M152 hP152 hw152 hMw152 => ?_)
      obtain ⟨hr152, hOK6, h⟩ := h r152 M152 hP152
      subst hr152
      refine g_iload (q0 := 157) (j := 4) rfl dX8_carryMessage_155 rfl ?_
      refine g_istore (q0 := 159) (j := 10) (lv2 := [_, _, _, _, _, _, _, _, _, _, _]) rfl dX8_carryMessage_157 (by decide) rfl rfl ?_
      exact h
  · replace h := wI_pos h118 h
    refine g_iconst (q0 := 122) rfl dX8_carryMessage_121 (k := ?_)
    refine g_goto (tgt := 134) dX8_carryMessage_122 (by decide) ?_
    refine g_istore (q0 := 136) (j := 9) (lv2 := [_, _, _, _, _, _, _, _, _, _, _]) rfl dX8_carryMessage_134 (by decide) rfl rfl ?_
    refine g_iload (q0 := 138) (j := 9) rfl dX8_carryMessage_136 rfl ?_
    refine g_if_lt (q0 := 141) (tgt := 155) rfl dX8_carryMessage_138 (by decide) (fun h138 => ?_) (fun h138 => ?_)
    · refine g_iload (q0 := 157) (j := 4) rfl dX8_carryMessage_155 rfl ?_
      refine g_istore (q0 := 159) (j := 10) (lv2 := [_, _, _, _, _, _, _, _, _, _, _]) rfl dX8_carryMessage_157 (by decide) rfl rfl ?_
      exact h
    · exact absurd h138 (by decide)
theorem w_X8_carryMessage_159 {sh : gS} {Q : Option gV → gS → gM → Prop} {x1 x2 x3 x4 x5 x6 x7 x8 x9 x10 : Int} {M : gM} (hOK : gOK sh M) (h : (if x9 < 0 then
    (if x10 < x7 then
      (∃ v182 : Int, gC (gr 0 0) yX1_messageByte cX1_messageByte 3 (some (.int)) [(4, 4), (0, x2), (0, x10)] sh M (gPp sh M (0, v182)) ∧
        (∃ P185 : Option gV → gM → Prop, gC (gr 0 0) yX2_addToMessage cX2_addToMessage 2 none [(4, 380), (0, v182)] sh M (gPm sh P185) ∧ ∀ (r185 : Option gV) (M185 : gM), P185 r185 M185 → r185 = none ∧ gOK sh M185 ∧
          (P_X8_carryMessage_159 sh Q x1 x2 x3 x4 x5 x6 x7 x8 x9 (gw32 (x10 + 1)) M185)))
    else
      (P_X8_carryMessage_16 sh Q x1 x2 x3 x7 (gw32 (x5 + 1)) M))
  else
    (P_X8_carryMessage_16 sh Q x1 x2 x3 x7 (gw32 (x5 + 1)) M))) : P_X8_carryMessage_159 sh Q x1 x2 x3 x4 x5 x6 x7 x8 x9 x10 M := by
  unfold P_X8_carryMessage_159
  refine g_iload (q0 := 161) (j := 9) rfl dX8_carryMessage_159 rfl ?_
  refine g_if_ge (q0 := 164) (tgt := 194) rfl dX8_carryMessage_161 (by decide) (fun h161 => ?_) (fun h161 => ?_)
  · replace h := wI_neg (Int.not_lt.mpr h161) h
    refine g_iload (q0 := 196) (j := 7) rfl dX8_carryMessage_194 rfl ?_
    refine g_istore (q0 := 198) (j := 4) (lv2 := [_, _, _, _, _, _, _, _, _, _, _]) rfl dX8_carryMessage_196 (by decide) rfl rfl ?_
    refine g_iincw (q0 := 201) (lv2 := [_, _, _, _, _, _, _, _, _, _, _]) rfl dX8_carryMessage_198 rfl (by decide) rfl rfl ?_
    refine g_goto (tgt := 16) dX8_carryMessage_201 (by decide) ?_
    refine gA_jk (lv1 := [_, _, _, _, _, _, (9, 0), (9, 0), (9, 0), (9, 0), (9, 0)]) ⟨.inl rfl, .inl rfl, .inl rfl, .inl rfl, .inl rfl, .inl rfl, .inr rfl, .inr rfl, .inr rfl, .inr rfl, .inr rfl, trivial⟩ ?_
    exact h
  · replace h := wI_pos h161 h
    refine g_iload (q0 := 166) (j := 10) rfl dX8_carryMessage_164 rfl ?_
    refine g_iload (q0 := 168) (j := 7) rfl dX8_carryMessage_166 rfl ?_
    refine g_icmp_ge (q0 := 171) (tgt := 194) rfl dX8_carryMessage_168 (by decide) (fun h168 => ?_) (fun h168 => ?_)
    · replace h := wI_neg (Int.not_lt.mpr h168) h
      refine g_iload (q0 := 196) (j := 7) rfl dX8_carryMessage_194 rfl ?_
      refine g_istore (q0 := 198) (j := 4) (lv2 := [_, _, _, _, _, _, _, _, _, _, _]) rfl dX8_carryMessage_196 (by decide) rfl rfl ?_
      refine g_iincw (q0 := 201) (lv2 := [_, _, _, _, _, _, _, _, _, _, _]) rfl dX8_carryMessage_198 rfl (by decide) rfl rfl ?_
      refine g_goto (tgt := 16) dX8_carryMessage_201 (by decide) ?_
      refine gA_jk (lv1 := [_, _, _, _, _, _, (9, 0), (9, 0), (9, 0), (9, 0), (9, 0)]) ⟨.inl rfl, .inl rfl, .inl rfl, .inl rfl, .inl rfl, .inl rfl, .inr rfl, .inr rfl, .inr rfl, .inr rfl, .inr rfl, trivial⟩ ?_
      exact h
    · replace h := wI_pos h168 h
      refine g_aload_n (q0 := 172) (j := 0) rfl dX8_carryMessage_171 rfl ?_
      refine g_getp (q0 := 175) (b := 380) rfl ff_X8_21 dX8_carryMessage_172 rfl hOK (by decide) (sh_3 hOK) rfl (by decide) ?_
      refine g_aload_n (q0 := 176) (j := 0) rfl dX8_carryMessage_175 rfl ?_
      refine g_getp (q0 := 179) (b := 4) rfl ff_X8_12 dX8_carryMessage_176 rfl hOK (by decide) (sh_3 hOK) rfl (by decide) ?_
      refine g_iload_n (q0 := 180) (j := 2) rfl dX8_carryMessage_179 rfl ?_
      refine g_iload (q0 := 182) (j := 10) rfl dX8_carryMessage_180 rfl ?_
      obtain ⟨v182, e182, h⟩ := h
      refine g_callVp (as := [_, _]) (rest := [_]) mt_X1_messageByte mi_X1_messageByte se_X1_messageByte ml_X8_244 dX8_carryMessage_182 (q0 := 185) rfl rfl (sh_4 hOK) rfl rfl e182 rfl ⟨by decide, by decide⟩ (Nat.le_of_ble_eq_true rfl) ⟨Nat.zero_le _, Nat.zero_le _⟩ (fun _ => ?_)
      obtain ⟨P185, e185, h⟩ := h
      refine g_callVm (as := [_]) (rest := []) mt_X2_addToMessage mi_X2_addToMessage se_X2_addToMessage ml_X8_271 dX8_carryMessage_185 (q0 := 188) rfl rfl (sh_380 hOK) rfl rfl e185 rfl ⟨by decide, by decide⟩ (Nat.le_of_ble_eq_true rfl) ⟨Nat.zero_le _, Nat.zero_le _⟩ (fun r185 M185 hP185 hw185 hMw185 => ?_)
      obtain ⟨hr185, hOK7, h⟩ := h r185 M185 hP185
      subst hr185
      refine g_iincw (q0 := 191) (lv2 := [_, _, _, _, _, _, _, _, _, _, _]) rfl dX8_carryMessage_188 rfl (by decide) rfl rfl ?_
      refine g_goto (tgt := 159) dX8_carryMessage_191 (by decide) ?_
      exact h
theorem w_X8_carryMessage {sh : gS} {Q : Option gV → gS → gM → Prop} {a1 a2 : Int} {M : gM} (hOK : gOK sh M) (h : ((0 ≤ a2 ∧ a2 < 120) ∧
    (P_X8_carryMessage_16 sh Q a1 a2 (M 10 a2) 0 0 M))) : gC (gr 2 51) yX8_carryMessage cX8_carryMessage 11 none [(4, 3), (4, a1), (0, a2)] sh M Q := by
  refine gC_ofA (lv := [_, _, _, _, _, _, _, _, _, _, _]) (by decide +kernel) (Nat.le_of_ble_eq_true rfl) rfl (fun hMw hav => ?_)
  refine g_aload_n (q0 := 1) (j := 0) rfl dX8_carryMessage_0 rfl ?_
  refine g_getp (q0 := 4) (b := 4) rfl ff_X8_12 dX8_carryMessage_1 rfl hOK (by decide) (sh_3 hOK) rfl (by decide) ?_
  refine g_getp (q0 := 7) (b := 10) rfl ff_X8_241 dX8_carryMessage_4 rfl hOK (by decide) (sh_4 hOK) rfl (by decide) ?_
  refine g_iload_n (q0 := 8) (j := 2) rfl dX8_carryMessage_7 rfl ?_
  obtain ⟨g8, h⟩ := h
  refine g_iald (q0 := 9) rfl dX8_carryMessage_8 (sh_10 hOK) g8.1 g8.2 ?_
  refine g_istore_n (q0 := 10) (j := 3) (lv2 := [_, _, _, _, _, _, _, _, _, _, _]) rfl dX8_carryMessage_9 (by decide) rfl rfl ?_
  refine g_iconst (q0 := 11) rfl dX8_carryMessage_10 (k := ?_)
  refine g_istore (q0 := 13) (j := 4) (lv2 := [_, _, _, _, _, _, _, _, _, _, _]) rfl dX8_carryMessage_11 (by decide) rfl rfl ?_
  refine g_iconst (q0 := 14) rfl dX8_carryMessage_13 (k := ?_)
  refine g_istore (q0 := 16) (j := 5) (lv2 := [_, _, _, _, _, _, _, _, _, _, _]) rfl dX8_carryMessage_14 (by decide) rfl rfl ?_
  exact h
-- ==== X8_endOfPiece
theorem dX8_endOfPiece_0 : decode cX8_endOfPiece 0 = .ok (.aload_n 0, 1) := by decide +kernel
theorem dX8_endOfPiece_1 : decode cX8_endOfPiece 1 = .ok (.getfield 12, 3) := by decide +kernel
theorem dX8_endOfPiece_4 : decode cX8_endOfPiece 4 = .ok (.iload_n 1, 1) := by decide +kernel
theorem dX8_endOfPiece_5 : decode cX8_endOfPiece 5 = .ok (.iload_n 2, 1) := by decide +kernel
theorem dX8_endOfPiece_6 : decode cX8_endOfPiece 6 = .ok (.invokevirtual 244, 3) := by decide +kernel
theorem dX8_endOfPiece_9 : decode cX8_endOfPiece 9 = .ok (.istore_n 3, 1) := by decide +kernel
theorem dX8_endOfPiece_10 : decode cX8_endOfPiece 10 = .ok (.iload_n 3, 1) := by decide +kernel
theorem dX8_endOfPiece_11 : decode cX8_endOfPiece 11 = .ok (.bipush 35, 2) := by decide +kernel
theorem dX8_endOfPiece_13 : decode cX8_endOfPiece 13 = .ok (.if_icmp .ne 8, 3) := by decide +kernel
theorem dX8_endOfPiece_16 : decode cX8_endOfPiece 16 = .ok (.bipush 48, 2) := by decide +kernel
theorem dX8_endOfPiece_18 : decode cX8_endOfPiece 18 = .ok (.goto 5, 3) := by decide +kernel
theorem dX8_endOfPiece_21 : decode cX8_endOfPiece 21 = .ok (.bipush 97, 2) := by decide +kernel
theorem dX8_endOfPiece_23 : decode cX8_endOfPiece 23 = .ok (.istore 4, 2) := by decide +kernel
theorem dX8_endOfPiece_25 : decode cX8_endOfPiece 25 = .ok (.iload_n 3, 1) := by decide +kernel
theorem dX8_endOfPiece_26 : decode cX8_endOfPiece 26 = .ok (.bipush 35, 2) := by decide +kernel
theorem dX8_endOfPiece_28 : decode cX8_endOfPiece 28 = .ok (.if_icmp .ne 8, 3) := by decide +kernel
theorem dX8_endOfPiece_31 : decode cX8_endOfPiece 31 = .ok (.bipush 57, 2) := by decide +kernel
theorem dX8_endOfPiece_33 : decode cX8_endOfPiece 33 = .ok (.goto 5, 3) := by decide +kernel
theorem dX8_endOfPiece_36 : decode cX8_endOfPiece 36 = .ok (.bipush 122, 2) := by decide +kernel
theorem dX8_endOfPiece_38 : decode cX8_endOfPiece 38 = .ok (.istore 5, 2) := by decide +kernel
theorem dX8_endOfPiece_40 : decode cX8_endOfPiece 40 = .ok (.iload_n 2, 1) := by decide +kernel
theorem dX8_endOfPiece_41 : decode cX8_endOfPiece 41 = .ok (.iconst 1, 1) := by decide +kernel
theorem dX8_endOfPiece_42 : decode cX8_endOfPiece 42 = .ok (.iadd, 1) := by decide +kernel
theorem dX8_endOfPiece_43 : decode cX8_endOfPiece 43 = .ok (.istore 6, 2) := by decide +kernel
theorem dX8_endOfPiece_45 : decode cX8_endOfPiece 45 = .ok (.iload_n 3, 1) := by decide +kernel
theorem dX8_endOfPiece_46 : decode cX8_endOfPiece 46 = .ok (.bipush 35, 2) := by decide +kernel
theorem dX8_endOfPiece_48 : decode cX8_endOfPiece 48 = .ok (.if_icmp .eq 18, 3) := by decide +kernel
theorem dX8_endOfPiece_51 : decode cX8_endOfPiece 51 = .ok (.iload_n 3, 1) := by decide +kernel
theorem dX8_endOfPiece_52 : decode cX8_endOfPiece 52 = .ok (.bipush 97, 2) := by decide +kernel
theorem dX8_endOfPiece_54 : decode cX8_endOfPiece 54 = .ok (.if_icmp .lt 9, 3) := by decide +kernel
theorem dX8_endOfPiece_57 : decode cX8_endOfPiece 57 = .ok (.iload_n 3, 1) := by decide +kernel
theorem dX8_endOfPiece_58 : decode cX8_endOfPiece 58 = .ok (.bipush 122, 2) := by decide +kernel
theorem dX8_endOfPiece_60 : decode cX8_endOfPiece 60 = .ok (.if_icmp .le 6, 3) := by decide +kernel
theorem dX8_endOfPiece_63 : decode cX8_endOfPiece 63 = .ok (.iload 6, 2) := by decide +kernel
theorem dX8_endOfPiece_65 : decode cX8_endOfPiece 65 = .ok (.ireturn, 1) := by decide +kernel
theorem dX8_endOfPiece_66 : decode cX8_endOfPiece 66 = .ok (.iload 6, 2) := by decide +kernel
theorem dX8_endOfPiece_68 : decode cX8_endOfPiece 68 = .ok (.aload_n 0, 1) := by decide +kernel
theorem dX8_endOfPiece_69 : decode cX8_endOfPiece 69 = .ok (.getfield 12, 3) := by decide +kernel
theorem dX8_endOfPiece_72 : decode cX8_endOfPiece 72 = .ok (.getfield 241, 3) := by decide +kernel
theorem dX8_endOfPiece_75 : decode cX8_endOfPiece 75 = .ok (.iload_n 1, 1) := by decide +kernel
theorem dX8_endOfPiece_76 : decode cX8_endOfPiece 76 = .ok (.iaload, 1) := by decide +kernel
theorem dX8_endOfPiece_77 : decode cX8_endOfPiece 77 = .ok (.if_icmp .ge 39, 3) := by decide +kernel
theorem dX8_endOfPiece_80 : decode cX8_endOfPiece 80 = .ok (.aload_n 0, 1) := by decide +kernel
theorem dX8_endOfPiece_81 : decode cX8_endOfPiece 81 = .ok (.getfield 12, 3) := by decide +kernel
theorem dX8_endOfPiece_84 : decode cX8_endOfPiece 84 = .ok (.iload_n 1, 1) := by decide +kernel
theorem dX8_endOfPiece_85 : decode cX8_endOfPiece 85 = .ok (.iload 6, 2) := by decide +kernel
theorem dX8_endOfPiece_87 : decode cX8_endOfPiece 87 = .ok (.invokevirtual 244, 3) := by decide +kernel
theorem dX8_endOfPiece_90 : decode cX8_endOfPiece 90 = .ok (.iload 4, 2) := by decide +kernel
theorem dX8_endOfPiece_92 : decode cX8_endOfPiece 92 = .ok (.if_icmp .lt 24, 3) := by decide +kernel
theorem dX8_endOfPiece_95 : decode cX8_endOfPiece 95 = .ok (.aload_n 0, 1) := by decide +kernel
theorem dX8_endOfPiece_96 : decode cX8_endOfPiece 96 = .ok (.getfield 12, 3) := by decide +kernel
theorem dX8_endOfPiece_99 : decode cX8_endOfPiece 99 = .ok (.iload_n 1, 1) := by decide +kernel
theorem dX8_endOfPiece_100 : decode cX8_endOfPiece 100 = .ok (.iload 6, 2) := by decide +kernel
theorem dX8_endOfPiece_102 : decode cX8_endOfPiece 102 = .ok (.invokevirtual 244, 3) := by decide +kernel
theorem dX8_endOfPiece_105 : decode cX8_endOfPiece 105 = .ok (.iload 5, 2) := by decide +kernel
theorem dX8_endOfPiece_107 : decode cX8_endOfPiece 107 = .ok (.if_icmp .gt 9, 3) := by decide +kernel
theorem dX8_endOfPiece_110 : decode cX8_endOfPiece 110 = .ok (.iinc 6 1, 3) := by decide +kernel
theorem dX8_endOfPiece_113 : decode cX8_endOfPiece 113 = .ok (.goto (-47), 3) := by decide +kernel
theorem dX8_endOfPiece_116 : decode cX8_endOfPiece 116 = .ok (.iload 6, 2) := by decide +kernel
theorem dX8_endOfPiece_118 : decode cX8_endOfPiece 118 = .ok (.ireturn, 1) := by decide +kernel
def P_X8_endOfPiece_38 (sh : gS) (Q : Option gV → gS → gM → Prop) (x1 x2 x3 x4 s0 : Int) (M : gM) : Prop := gA (gr 1 22) yX8_endOfPiece cX8_endOfPiece 7 (some (.int)) Q (0, 0) 38 [(4, 3), (0, x1), (0, x2), (0, x3), (0, x4), (9, 0), (9, 0)] [(0, s0)] sh M
def P_X8_endOfPiece_66 (sh : gS) (Q : Option gV → gS → gM → Prop) (x1 x2 x3 x4 x5 x6 : Int) (M : gM) : Prop := gA (gr 1 22) yX8_endOfPiece cX8_endOfPiece 7 (some (.int)) Q (0, 0) 66 [(4, 3), (0, x1), (0, x2), (0, x3), (0, x4), (0, x5), (0, x6)] [] sh M
theorem w_X8_endOfPiece_38 {sh : gS} {Q : Option gV → gS → gM → Prop} {x1 x2 x3 x4 s0 : Int} {M : gM} (hOK : gOK sh M) (h : (if x3 = 35 then
    (P_X8_endOfPiece_66 sh Q x1 x2 x3 x4 s0 (gw32 (x2 + (1 : Int))) M)
  else
    (if x3 < 97 then
      (Q (some (0, (gw32 (x2 + (1 : Int))))) sh M)
    else
      (if (122 : Int) < x3 then
        (Q (some (0, (gw32 (x2 + (1 : Int))))) sh M)
      else
        (P_X8_endOfPiece_66 sh Q x1 x2 x3 x4 s0 (gw32 (x2 + (1 : Int))) M))))) : P_X8_endOfPiece_38 sh Q x1 x2 x3 x4 s0 M := by
  unfold P_X8_endOfPiece_38
  refine g_istore (q0 := 40) (j := 5) (lv2 := [_, _, _, _, _, _, _]) rfl dX8_endOfPiece_38 (by decide) rfl rfl ?_
  refine g_iload_n (q0 := 41) (j := 2) rfl dX8_endOfPiece_40 rfl ?_
  refine g_iconst (q0 := 42) rfl dX8_endOfPiece_41 (k := ?_)
  refine g_iaddw (q0 := 43) rfl dX8_endOfPiece_42 ?_
  refine g_istore (q0 := 45) (j := 6) (lv2 := [_, _, _, _, _, _, _]) rfl dX8_endOfPiece_43 (by decide) rfl rfl ?_
  refine g_iload_n (q0 := 46) (j := 3) rfl dX8_endOfPiece_45 rfl ?_
  refine g_bipush (q0 := 48) rfl dX8_endOfPiece_46 (k := ?_)
  refine g_icmp_eq (q0 := 51) (tgt := 66) rfl dX8_endOfPiece_48 (by decide) (fun h48 => ?_) (fun h48 => ?_)
  · replace h := wI_pos h48 h
    exact h
  · replace h := wI_neg h48 h
    refine g_iload_n (q0 := 52) (j := 3) rfl dX8_endOfPiece_51 rfl ?_
    refine g_bipush (q0 := 54) rfl dX8_endOfPiece_52 (k := ?_)
    refine g_icmp_lt (q0 := 57) (tgt := 63) rfl dX8_endOfPiece_54 (by decide) (fun h54 => ?_) (fun h54 => ?_)
    · replace h := wI_pos h54 h
      refine g_iload (q0 := 65) (j := 6) rfl dX8_endOfPiece_63 rfl ?_
      exact g_ireturn dX8_endOfPiece_65 rfl ⟨Nat.zero_le _, Nat.zero_le _⟩ h
    · replace h := wI_neg (Int.not_lt.mpr h54) h
      refine g_iload_n (q0 := 58) (j := 3) rfl dX8_endOfPiece_57 rfl ?_
      refine g_bipush (q0 := 60) rfl dX8_endOfPiece_58 (k := ?_)
      refine g_icmp_le (q0 := 63) (tgt := 66) rfl dX8_endOfPiece_60 (by decide) (fun h60 => ?_) (fun h60 => ?_)
      · replace h := wI_neg (Int.not_lt.mpr h60) h
        exact h
      · replace h := wI_pos h60 h
        refine g_iload (q0 := 65) (j := 6) rfl dX8_endOfPiece_63 rfl ?_
        exact g_ireturn dX8_endOfPiece_65 rfl ⟨Nat.zero_le _, Nat.zero_le _⟩ h
theorem w_X8_endOfPiece_66 {sh : gS} {Q : Option gV → gS → gM → Prop} {x1 x2 x3 x4 x5 x6 : Int} {M : gM} (hOK : gOK sh M) (h : ((0 ≤ x1 ∧ x1 < 120) ∧
    (if x6 < (M 10 x1) then
      (∃ v87 : Int, gC (gr 0 0) yX1_messageByte cX1_messageByte 3 (some (.int)) [(4, 4), (0, x1), (0, x6)] sh M (gPp sh M (0, v87)) ∧
        (if v87 < x4 then
          (Q (some (0, x6)) sh M)
        else
          (∃ v102 : Int, gC (gr 0 0) yX1_messageByte cX1_messageByte 3 (some (.int)) [(4, 4), (0, x1), (0, x6)] sh M (gPp sh M (0, v102)) ∧
            (if x5 < v102 then
              (Q (some (0, x6)) sh M)
            else
              (P_X8_endOfPiece_66 sh Q x1 x2 x3 x4 x5 (gw32 (x6 + 1)) M)))))
    else
      (Q (some (0, x6)) sh M)))) : P_X8_endOfPiece_66 sh Q x1 x2 x3 x4 x5 x6 M := by
  unfold P_X8_endOfPiece_66
  refine g_iload (q0 := 68) (j := 6) rfl dX8_endOfPiece_66 rfl ?_
  refine g_aload_n (q0 := 69) (j := 0) rfl dX8_endOfPiece_68 rfl ?_
  refine g_getp (q0 := 72) (b := 4) rfl ff_X8_12 dX8_endOfPiece_69 rfl hOK (by decide) (sh_3 hOK) rfl (by decide) ?_
  refine g_getp (q0 := 75) (b := 10) rfl ff_X8_241 dX8_endOfPiece_72 rfl hOK (by decide) (sh_4 hOK) rfl (by decide) ?_
  refine g_iload_n (q0 := 76) (j := 1) rfl dX8_endOfPiece_75 rfl ?_
  obtain ⟨g1, h⟩ := h
  refine g_iald (q0 := 77) rfl dX8_endOfPiece_76 (sh_10 hOK) g1.1 g1.2 ?_
  refine g_icmp_ge (q0 := 80) (tgt := 116) rfl dX8_endOfPiece_77 (by decide) (fun h77 => ?_) (fun h77 => ?_)
  · replace h := wI_neg (Int.not_lt.mpr h77) h
    refine g_iload (q0 := 118) (j := 6) rfl dX8_endOfPiece_116 rfl ?_
    exact g_ireturn dX8_endOfPiece_118 rfl ⟨Nat.zero_le _, Nat.zero_le _⟩ h
  · replace h := wI_pos h77 h
    refine g_aload_n (q0 := 81) (j := 0) rfl dX8_endOfPiece_80 rfl ?_
    refine g_getp (q0 := 84) (b := 4) rfl ff_X8_12 dX8_endOfPiece_81 rfl hOK (by decide) (sh_3 hOK) rfl (by decide) ?_
    refine g_iload_n (q0 := 85) (j := 1) rfl dX8_endOfPiece_84 rfl ?_
    refine g_iload (q0 := 87) (j := 6) rfl dX8_endOfPiece_85 rfl ?_
    obtain ⟨v87, e87, h⟩ := h
    refine g_callVp (as := [_, _]) (rest := []) mt_X1_messageByte mi_X1_messageByte se_X1_messageByte ml_X8_244 dX8_endOfPiece_87 (q0 := 90) rfl rfl (sh_4 hOK) rfl rfl e87 rfl ⟨by decide, by decide⟩ (Nat.le_of_ble_eq_true rfl) ⟨Nat.zero_le _, Nat.zero_le _⟩ (fun _ => ?_)
    refine g_iload (q0 := 92) (j := 4) rfl dX8_endOfPiece_90 rfl ?_
    refine g_icmp_lt (q0 := 95) (tgt := 116) rfl dX8_endOfPiece_92 (by decide) (fun h92 => ?_) (fun h92 => ?_)
    · replace h := wI_pos h92 h
      refine g_iload (q0 := 118) (j := 6) rfl dX8_endOfPiece_116 rfl ?_
      exact g_ireturn dX8_endOfPiece_118 rfl ⟨Nat.zero_le _, Nat.zero_le _⟩ h
    · replace h := wI_neg (Int.not_lt.mpr h92) h
      refine g_aload_n (q0 := 96) (j := 0) rfl dX8_endOfPiece_95 rfl ?_
      refine g_getp (q0 := 99) (b := 4) rfl ff_X8_12 dX8_endOfPiece_96 rfl hOK (by decide) (sh_3 hOK) rfl (by decide) ?_
      refine g_iload_n (q0 := 100) (j := 1) rfl dX8_endOfPiece_99 rfl ?_
      refine g_iload (q0 := 102) (j := 6) rfl dX8_endOfPiece_100 rfl ?_
      obtain ⟨v102, e102, h⟩ := h
      refine g_callVp (as := [_, _]) (rest := []) mt_X1_messageByte mi_X1_messageByte se_X1_messageByte ml_X8_244 dX8_endOfPiece_102 (q0 := 105) rfl rfl (sh_4 hOK) rfl rfl e102 rfl ⟨by decide, by decide⟩ (Nat.le_of_ble_eq_true rfl) ⟨Nat.zero_le _, Nat.zero_le _⟩ (fun _ => ?_)
      refine g_iload (q0 := 107) (j := 5) rfl dX8_endOfPiece_105 rfl ?_
      refine g_icmp_gt (q0 := 110) (tgt := 116) rfl dX8_endOfPiece_107 (by decide) (fun h107 => ?_) (fun h107 => ?_)
      · replace h := wI_pos h107 h
        refine g_iload (q0 := 118) (j := 6) rfl dX8_endOfPiece_116 rfl ?_
        exact g_ireturn dX8_endOfPiece_118 rfl ⟨Nat.zero_le _, Nat.zero_le _⟩ h
      · replace h := wI_neg (Int.not_lt.mpr h107) h
        refine g_iincw (q0 := 113) (lv2 := [_, _, _, _, _, _, _]) rfl dX8_endOfPiece_110 rfl (by decide) rfl rfl ?_
        refine g_goto (tgt := 66) dX8_endOfPiece_113 (by decide) ?_
        exact h
theorem w_X8_endOfPiece {sh : gS} {Q : Option gV → gS → gM → Prop} {a1 a2 : Int} {M : gM} (hOK : gOK sh M) (h : (∃ v6 : Int, gC (gr 0 0) yX1_messageByte cX1_messageByte 3 (some (.int)) [(4, 4), (0, a1), (0, a2)] sh M (gPp sh M (0, v6)) ∧
    (if v6 = 35 then
      (if v6 = 35 then
        (P_X8_endOfPiece_38 sh Q a1 a2 v6 48 57 M)
      else
        (P_X8_endOfPiece_38 sh Q a1 a2 v6 48 122 M))
    else
      (if v6 = 35 then
        (P_X8_endOfPiece_38 sh Q a1 a2 v6 97 57 M)
      else
        (P_X8_endOfPiece_38 sh Q a1 a2 v6 97 122 M))))) : gC (gr 1 22) yX8_endOfPiece cX8_endOfPiece 7 (some (.int)) [(4, 3), (0, a1), (0, a2)] sh M Q := by
  refine gC_ofA (lv := [_, _, _, _, _, _, _]) (by decide +kernel) (Nat.le_of_ble_eq_true rfl) rfl (fun hMw hav => ?_)
  refine g_aload_n (q0 := 1) (j := 0) rfl dX8_endOfPiece_0 rfl ?_
  refine g_getp (q0 := 4) (b := 4) rfl ff_X8_12 dX8_endOfPiece_1 rfl hOK (by decide) (sh_3 hOK) rfl (by decide) ?_
  refine g_iload_n (q0 := 5) (j := 1) rfl dX8_endOfPiece_4 rfl ?_
  refine g_iload_n (q0 := 6) (j := 2) rfl dX8_endOfPiece_5 rfl ?_
  obtain ⟨v6, e6, h⟩ := h
  refine g_callVp (as := [_, _]) (rest := []) mt_X1_messageByte mi_X1_messageByte se_X1_messageByte ml_X8_244 dX8_endOfPiece_6 (q0 := 9) rfl rfl (sh_4 hOK) rfl rfl e6 rfl ⟨by decide, by decide⟩ (Nat.le_of_ble_eq_true rfl) ⟨Nat.zero_le _, Nat.zero_le _⟩ (fun _ => ?_)
  refine g_istore_n (q0 := 10) (j := 3) (lv2 := [_, _, _, _, _, _, _]) rfl dX8_endOfPiece_9 (by decide) rfl rfl ?_
  refine g_iload_n (q0 := 11) (j := 3) rfl dX8_endOfPiece_10 rfl ?_
  refine g_bipush (q0 := 13) rfl dX8_endOfPiece_11 (k := ?_)
  refine g_icmp_ne (q0 := 16) (tgt := 21) rfl dX8_endOfPiece_13 (by decide) (fun h13 => ?_) (fun h13 => ?_)
  · replace h := wI_neg h13 h
    refine g_bipush (q0 := 23) rfl dX8_endOfPiece_21 (k := ?_)
    refine g_istore (q0 := 25) (j := 4) (lv2 := [_, _, _, _, _, _, _]) rfl dX8_endOfPiece_23 (by decide) rfl rfl ?_
    refine g_iload_n (q0 := 26) (j := 3) rfl dX8_endOfPiece_25 rfl ?_
    refine g_bipush (q0 := 28) rfl dX8_endOfPiece_26 (k := ?_)
    refine g_icmp_ne (q0 := 31) (tgt := 36) rfl dX8_endOfPiece_28 (by decide) (fun h28 => ?_) (fun h28 => ?_)
    · replace h := wI_neg h28 h
      refine g_bipush (q0 := 38) rfl dX8_endOfPiece_36 (k := ?_)
      exact h
    · replace h := wI_pos h28 h
      refine g_bipush (q0 := 33) rfl dX8_endOfPiece_31 (k := ?_)
      refine g_goto (tgt := 38) dX8_endOfPiece_33 (by decide) ?_
      exact h
  · replace h := wI_pos h13 h
    refine g_bipush (q0 := 18) rfl dX8_endOfPiece_16 (k := ?_)
    refine g_goto (tgt := 23) dX8_endOfPiece_18 (by decide) ?_
    refine g_istore (q0 := 25) (j := 4) (lv2 := [_, _, _, _, _, _, _]) rfl dX8_endOfPiece_23 (by decide) rfl rfl ?_
    refine g_iload_n (q0 := 26) (j := 3) rfl dX8_endOfPiece_25 rfl ?_
    refine g_bipush (q0 := 28) rfl dX8_endOfPiece_26 (k := ?_)
    refine g_icmp_ne (q0 := 31) (tgt := 36) rfl dX8_endOfPiece_28 (by decide) (fun h28 => ?_) (fun h28 => ?_)
    · replace h := wI_neg h28 h
      refine g_bipush (q0 := 38) rfl dX8_endOfPiece_36 (k := ?_)
      exact h
    · replace h := wI_pos h28 h
      refine g_bipush (q0 := 33) rfl dX8_endOfPiece_31 (k := ?_)
      refine g_goto (tgt := 38) dX8_endOfPiece_33 (by decide) ?_
      exact h
-- ==== X8_carryMention
theorem dX8_carryMention_0 : decode cX8_carryMention 0 = .ok (.iload_n 3, 1) := by decide +kernel
theorem dX8_carryMention_1 : decode cX8_carryMention 1 = .ok (.iload_n 2, 1) := by decide +kernel
theorem dX8_carryMention_2 : decode cX8_carryMention 2 = .ok (.isub, 1) := by decide +kernel
theorem dX8_carryMention_3 : decode cX8_carryMention 3 = .ok (.istore 4, 2) := by decide +kernel
theorem dX8_carryMention_5 : decode cX8_carryMention 5 = .ok (.iload 4, 2) := by decide +kernel
theorem dX8_carryMention_7 : decode cX8_carryMention 7 = .ok (.iconst 1, 1) := by decide +kernel
theorem dX8_carryMention_8 : decode cX8_carryMention 8 = .ok (.if_icmp .lt 29, 3) := by decide +kernel
theorem dX8_carryMention_11 : decode cX8_carryMention 11 = .ok (.iload 4, 2) := by decide +kernel
theorem dX8_carryMention_13 : decode cX8_carryMention 13 = .ok (.iconst 3, 1) := by decide +kernel
theorem dX8_carryMention_14 : decode cX8_carryMention 14 = .ok (.if_icmp .gt 23, 3) := by decide +kernel
theorem dX8_carryMention_17 : decode cX8_carryMention 17 = .ok (.iload 4, 2) := by decide +kernel
theorem dX8_carryMention_19 : decode cX8_carryMention 19 = .ok (.iconst 1, 1) := by decide +kernel
theorem dX8_carryMention_20 : decode cX8_carryMention 20 = .ok (.if_icmp .le 19, 3) := by decide +kernel
theorem dX8_carryMention_23 : decode cX8_carryMention 23 = .ok (.aload_n 0, 1) := by decide +kernel
theorem dX8_carryMention_24 : decode cX8_carryMention 24 = .ok (.getfield 12, 3) := by decide +kernel
theorem dX8_carryMention_27 : decode cX8_carryMention 27 = .ok (.iload_n 1, 1) := by decide +kernel
theorem dX8_carryMention_28 : decode cX8_carryMention 28 = .ok (.iload_n 2, 1) := by decide +kernel
theorem dX8_carryMention_29 : decode cX8_carryMention 29 = .ok (.invokevirtual 244, 3) := by decide +kernel
theorem dX8_carryMention_32 : decode cX8_carryMention 32 = .ok (.bipush 48, 2) := by decide +kernel
theorem dX8_carryMention_34 : decode cX8_carryMention 34 = .ok (.if_icmp .ne 5, 3) := by decide +kernel
theorem dX8_carryMention_37 : decode cX8_carryMention 37 = .ok (.iconst 0, 1) := by decide +kernel
theorem dX8_carryMention_38 : decode cX8_carryMention 38 = .ok (.ireturn, 1) := by decide +kernel
theorem dX8_carryMention_39 : decode cX8_carryMention 39 = .ok (.iconst 0, 1) := by decide +kernel
theorem dX8_carryMention_40 : decode cX8_carryMention 40 = .ok (.istore 5, 2) := by decide +kernel
theorem dX8_carryMention_42 : decode cX8_carryMention 42 = .ok (.iload_n 2, 1) := by decide +kernel
theorem dX8_carryMention_43 : decode cX8_carryMention 43 = .ok (.istore 6, 2) := by decide +kernel
theorem dX8_carryMention_45 : decode cX8_carryMention 45 = .ok (.iload 6, 2) := by decide +kernel
theorem dX8_carryMention_47 : decode cX8_carryMention 47 = .ok (.iload_n 3, 1) := by decide +kernel
theorem dX8_carryMention_48 : decode cX8_carryMention 48 = .ok (.if_icmp .ge 30, 3) := by decide +kernel
theorem dX8_carryMention_51 : decode cX8_carryMention 51 = .ok (.iload 5, 2) := by decide +kernel
theorem dX8_carryMention_53 : decode cX8_carryMention 53 = .ok (.bipush 10, 2) := by decide +kernel
theorem dX8_carryMention_55 : decode cX8_carryMention 55 = .ok (.imul, 1) := by decide +kernel
theorem dX8_carryMention_56 : decode cX8_carryMention 56 = .ok (.aload_n 0, 1) := by decide +kernel
theorem dX8_carryMention_57 : decode cX8_carryMention 57 = .ok (.getfield 12, 3) := by decide +kernel
theorem dX8_carryMention_60 : decode cX8_carryMention 60 = .ok (.iload_n 1, 1) := by decide +kernel
theorem dX8_carryMention_61 : decode cX8_carryMention 61 = .ok (.iload 6, 2) := by decide +kernel
theorem dX8_carryMention_63 : decode cX8_carryMention 63 = .ok (.invokevirtual 244, 3) := by decide +kernel
theorem dX8_carryMention_66 : decode cX8_carryMention 66 = .ok (.iadd, 1) := by decide +kernel
theorem dX8_carryMention_67 : decode cX8_carryMention 67 = .ok (.bipush 48, 2) := by decide +kernel
theorem dX8_carryMention_69 : decode cX8_carryMention 69 = .ok (.isub, 1) := by decide +kernel
theorem dX8_carryMention_70 : decode cX8_carryMention 70 = .ok (.istore 5, 2) := by decide +kernel
theorem dX8_carryMention_72 : decode cX8_carryMention 72 = .ok (.iinc 6 1, 3) := by decide +kernel
theorem dX8_carryMention_75 : decode cX8_carryMention 75 = .ok (.goto (-30), 3) := by decide +kernel
theorem dX8_carryMention_78 : decode cX8_carryMention 78 = .ok (.aload_n 0, 1) := by decide +kernel
theorem dX8_carryMention_79 : decode cX8_carryMention 79 = .ok (.getfield 30, 3) := by decide +kernel
theorem dX8_carryMention_82 : decode cX8_carryMention 82 = .ok (.iload_n 1, 1) := by decide +kernel
theorem dX8_carryMention_83 : decode cX8_carryMention 83 = .ok (.iload 5, 2) := by decide +kernel
theorem dX8_carryMention_85 : decode cX8_carryMention 85 = .ok (.invokevirtual 55, 3) := by decide +kernel
theorem dX8_carryMention_88 : decode cX8_carryMention 88 = .ok (.ifCond .ne 5, 3) := by decide +kernel
theorem dX8_carryMention_91 : decode cX8_carryMention 91 = .ok (.iconst 0, 1) := by decide +kernel
theorem dX8_carryMention_92 : decode cX8_carryMention 92 = .ok (.ireturn, 1) := by decide +kernel
theorem dX8_carryMention_93 : decode cX8_carryMention 93 = .ok (.aload_n 0, 1) := by decide +kernel
theorem dX8_carryMention_94 : decode cX8_carryMention 94 = .ok (.getfield 21, 3) := by decide +kernel
theorem dX8_carryMention_97 : decode cX8_carryMention 97 = .ok (.bipush 35, 2) := by decide +kernel
theorem dX8_carryMention_99 : decode cX8_carryMention 99 = .ok (.invokevirtual 271, 3) := by decide +kernel
theorem dX8_carryMention_102 : decode cX8_carryMention 102 = .ok (.aload_n 0, 1) := by decide +kernel
theorem dX8_carryMention_103 : decode cX8_carryMention 103 = .ok (.getfield 37, 3) := by decide +kernel
theorem dX8_carryMention_106 : decode cX8_carryMention 106 = .ok (.iload 5, 2) := by decide +kernel
theorem dX8_carryMention_108 : decode cX8_carryMention 108 = .ok (.iaload, 1) := by decide +kernel
theorem dX8_carryMention_109 : decode cX8_carryMention 109 = .ok (.istore 6, 2) := by decide +kernel
theorem dX8_carryMention_111 : decode cX8_carryMention 111 = .ok (.iload 6, 2) := by decide +kernel
theorem dX8_carryMention_113 : decode cX8_carryMention 113 = .ok (.ifCond .ge 14, 3) := by decide +kernel
theorem dX8_carryMention_116 : decode cX8_carryMention 116 = .ok (.aload_n 0, 1) := by decide +kernel
theorem dX8_carryMention_117 : decode cX8_carryMention 117 = .ok (.getfield 21, 3) := by decide +kernel
theorem dX8_carryMention_120 : decode cX8_carryMention 120 = .ok (.bipush 63, 2) := by decide +kernel
theorem dX8_carryMention_122 : decode cX8_carryMention 122 = .ok (.invokevirtual 271, 3) := by decide +kernel
theorem dX8_carryMention_125 : decode cX8_carryMention 125 = .ok (.iconst 1, 1) := by decide +kernel
theorem dX8_carryMention_126 : decode cX8_carryMention 126 = .ok (.ireturn, 1) := by decide +kernel
theorem dX8_carryMention_127 : decode cX8_carryMention 127 = .ok (.iload 6, 2) := by decide +kernel
theorem dX8_carryMention_129 : decode cX8_carryMention 129 = .ok (.bipush 100, 2) := by decide +kernel
theorem dX8_carryMention_131 : decode cX8_carryMention 131 = .ok (.if_icmp .lt 7, 3) := by decide +kernel
theorem dX8_carryMention_134 : decode cX8_carryMention 134 = .ok (.iconst 3, 1) := by decide +kernel
theorem dX8_carryMention_135 : decode cX8_carryMention 135 = .ok (.goto 15, 3) := by decide +kernel
theorem dX8_carryMention_138 : decode cX8_carryMention 138 = .ok (.iload 6, 2) := by decide +kernel
theorem dX8_carryMention_140 : decode cX8_carryMention 140 = .ok (.bipush 10, 2) := by decide +kernel
theorem dX8_carryMention_142 : decode cX8_carryMention 142 = .ok (.if_icmp .lt 7, 3) := by decide +kernel
theorem dX8_carryMention_145 : decode cX8_carryMention 145 = .ok (.iconst 2, 1) := by decide +kernel
theorem dX8_carryMention_146 : decode cX8_carryMention 146 = .ok (.goto 4, 3) := by decide +kernel
theorem dX8_carryMention_149 : decode cX8_carryMention 149 = .ok (.iconst 1, 1) := by decide +kernel
theorem dX8_carryMention_150 : decode cX8_carryMention 150 = .ok (.istore 7, 2) := by decide +kernel
theorem dX8_carryMention_152 : decode cX8_carryMention 152 = .ok (.iload 7, 2) := by decide +kernel
theorem dX8_carryMention_154 : decode cX8_carryMention 154 = .ok (.iconst 1, 1) := by decide +kernel
theorem dX8_carryMention_155 : decode cX8_carryMention 155 = .ok (.isub, 1) := by decide +kernel
theorem dX8_carryMention_156 : decode cX8_carryMention 156 = .ok (.istore 8, 2) := by decide +kernel
theorem dX8_carryMention_158 : decode cX8_carryMention 158 = .ok (.iload 8, 2) := by decide +kernel
theorem dX8_carryMention_160 : decode cX8_carryMention 160 = .ok (.ifCond .lt 26, 3) := by decide +kernel
theorem dX8_carryMention_163 : decode cX8_carryMention 163 = .ok (.aload_n 0, 1) := by decide +kernel
theorem dX8_carryMention_164 : decode cX8_carryMention 164 = .ok (.getfield 21, 3) := by decide +kernel
theorem dX8_carryMention_167 : decode cX8_carryMention 167 = .ok (.bipush 48, 2) := by decide +kernel
theorem dX8_carryMention_169 : decode cX8_carryMention 169 = .ok (.iload 6, 2) := by decide +kernel
theorem dX8_carryMention_171 : decode cX8_carryMention 171 = .ok (.iload 8, 2) := by decide +kernel
theorem dX8_carryMention_173 : decode cX8_carryMention 173 = .ok (.invokestatic 274, 3) := by decide +kernel
theorem dX8_carryMention_176 : decode cX8_carryMention 176 = .ok (.iadd, 1) := by decide +kernel
theorem dX8_carryMention_177 : decode cX8_carryMention 177 = .ok (.invokevirtual 271, 3) := by decide +kernel
theorem dX8_carryMention_180 : decode cX8_carryMention 180 = .ok (.iinc 8 (-1), 3) := by decide +kernel
theorem dX8_carryMention_183 : decode cX8_carryMention 183 = .ok (.goto (-25), 3) := by decide +kernel
theorem dX8_carryMention_186 : decode cX8_carryMention 186 = .ok (.iconst 1, 1) := by decide +kernel
theorem dX8_carryMention_187 : decode cX8_carryMention 187 = .ok (.ireturn, 1) := by decide +kernel
def P_X8_carryMention_45 (sh : gS) (Q : Option gV → gS → gM → Prop) (x1 x2 x3 x4 x5 x6 : Int) (M : gM) : Prop := gA (gr 1 23) yX8_carryMention cX8_carryMention 9 (some (.boolean)) Q (0, 0) 45 [(4, 3), (0, x1), (0, x2), (0, x3), (0, x4), (0, x5), (0, x6), (9, 0), (9, 0)] [] sh M
def P_X8_carryMention_158 (sh : gS) (Q : Option gV → gS → gM → Prop) (x1 x2 x3 x4 x5 x6 x7 x8 : Int) (M : gM) : Prop := gA (gr 1 23) yX8_carryMention cX8_carryMention 9 (some (.boolean)) Q (0, 0) 158 [(4, 3), (0, x1), (0, x2), (0, x3), (0, x4), (0, x5), (0, x6), (0, x7), (0, x8)] [] sh M
theorem w_X8_carryMention_45 {sh : gS} {Q : Option gV → gS → gM → Prop} {x1 x2 x3 x4 x5 x6 : Int} {M : gM} (hOK : gOK sh M) (h : (if x6 < x3 then
    (∃ v63 : Int, gC (gr 0 0) yX1_messageByte cX1_messageByte 3 (some (.int)) [(4, 4), (0, x1), (0, x6)] sh M (gPp sh M (0, v63)) ∧
      (P_X8_carryMention_45 sh Q x1 x2 x3 x4 (gw32 ((gw32 ((gw32 (x5 * (10 : Int))) + v63)) - (48 : Int))) (gw32 (x6 + 1)) M))
  else
    (∃ v85 : Int, gC (gr 0 0) yX3_has cX3_has 3 (some (.boolean)) [(4, 389), (0, x1), (0, x5)] sh M (gPp sh M (0, v85)) ∧
      (if v85 = 0 then
        (Q (some (0, 0)) sh M)
      else
        (∃ P99 : Option gV → gM → Prop, gC (gr 0 0) yX2_addToMessage cX2_addToMessage 2 none [(4, 380), (0, 35)] sh M (gPm sh P99) ∧ ∀ (r99 : Option gV) (M99 : gM), P99 r99 M99 → r99 = none ∧ gOK sh M99 ∧
          ((0 ≤ x5 ∧ x5 < 120) ∧
            (if (M99 395 x5) < 0 then
              (∃ P122 : Option gV → gM → Prop, gC (gr 0 0) yX2_addToMessage cX2_addToMessage 2 none [(4, 380), (0, 63)] sh M99 (gPm sh P122) ∧ ∀ (r122 : Option gV) (M122 : gM), P122 r122 M122 → r122 = none ∧ gOK sh M122 ∧
                (Q (some (0, 1)) sh M122))
            else
              (if (M99 395 x5) < 100 then
                (if (M99 395 x5) < 10 then
                  (P_X8_carryMention_158 sh Q x1 x2 x3 x4 x5 (M99 395 x5) 1 (gw32 ((1 : Int) - (1 : Int))) M99)
                else
                  (P_X8_carryMention_158 sh Q x1 x2 x3 x4 x5 (M99 395 x5) 2 (gw32 ((2 : Int) - (1 : Int))) M99))
              else
                (P_X8_carryMention_158 sh Q x1 x2 x3 x4 x5 (M99 395 x5) 3 (gw32 ((3 : Int) - (1 : Int))) M99))))))))) : P_X8_carryMention_45 sh Q x1 x2 x3 x4 x5 x6 M := by
  unfold P_X8_carryMention_45
  refine g_iload (q0 := 47) (j := 6) rfl dX8_carryMention_45 rfl ?_
  refine g_iload_n (q0 := 48) (j := 3) rfl dX8_carryMention_47 rfl ?_
  refine g_icmp_ge (q0 := 51) (tgt := 78) rfl dX8_carryMention_48 (by decide) (fun h48 => ?_) (fun h48 => ?_)
  · replace h := wI_neg (Int.not_lt.mpr h48) h
    refine g_aload_n (q0 := 79) (j := 0) rfl dX8_carryMention_78 rfl ?_
    refine g_getp (q0 := 82) (b := 389) rfl ff_X8_30 dX8_carryMention_79 rfl hOK (by decide) (sh_3 hOK) rfl (by decide) ?_
    refine g_iload_n (q0 := 83) (j := 1) rfl dX8_carryMention_82 rfl ?_
    refine g_iload (q0 := 85) (j := 5) rfl dX8_carryMention_83 rfl ?_
    obtain ⟨v85, e85, h⟩ := h
    refine g_callVp (as := [_, _]) (rest := []) mt_X3_has mi_X3_has se_X3_has ml_X8_55 dX8_carryMention_85 (q0 := 88) rfl rfl (sh_389 hOK) rfl rfl e85 rfl ⟨by decide, by decide⟩ (Nat.le_of_ble_eq_true rfl) ⟨Nat.zero_le _, Nat.zero_le _⟩ (fun _ => ?_)
    refine g_if_ne (q0 := 91) (tgt := 93) rfl dX8_carryMention_88 (by decide) (fun h88 => ?_) (fun h88 => ?_)
    · replace h := wI_neg h88 h
      refine g_aload_n (q0 := 94) (j := 0) rfl dX8_carryMention_93 rfl ?_
      refine g_getp (q0 := 97) (b := 380) rfl ff_X8_21 dX8_carryMention_94 rfl hOK (by decide) (sh_3 hOK) rfl (by decide) ?_
      refine g_bipush (q0 := 99) rfl dX8_carryMention_97 (k := ?_)
      obtain ⟨P99, e99, h⟩ := h
      refine g_callVm (as := [_]) (rest := []) mt_X2_addToMessage mi_X2_addToMessage se_X2_addToMessage ml_X8_271 dX8_carryMention_99 (q0 := 102) rfl rfl (sh_380 hOK) rfl rfl e99 rfl ⟨by decide, by decide⟩ (Nat.le_of_ble_eq_true rfl) ⟨Nat.zero_le _, Nat.zero_le _⟩ (fun r99 M99 hP99 hw99 hMw99 => ?_)
      obtain ⟨hr99, hOK1, h⟩ := h r99 M99 hP99
      subst hr99
      refine g_aload_n (q0 := 103) (j := 0) rfl dX8_carryMention_102 rfl ?_
      refine g_getp (q0 := 106) (b := 395) rfl ff_X8_37 dX8_carryMention_103 rfl hOK1 (by decide) (sh_3 hOK1) rfl (by decide) ?_
      refine g_iload (q0 := 108) (j := 5) rfl dX8_carryMention_106 rfl ?_
      obtain ⟨g2, h⟩ := h
      refine g_iald (q0 := 109) rfl dX8_carryMention_108 (sh_395 hOK1) g2.1 g2.2 ?_
      refine g_istore (q0 := 111) (j := 6) (lv2 := [_, _, _, _, _, _, _, _, _]) rfl dX8_carryMention_109 (by decide) rfl rfl ?_
      refine g_iload (q0 := 113) (j := 6) rfl dX8_carryMention_111 rfl ?_
      refine g_if_ge (q0 := 116) (tgt := 127) rfl dX8_carryMention_113 (by decide) (fun h113 => ?_) (fun h113 => ?_)
      · replace h := wI_neg (Int.not_lt.mpr h113) h
        refine g_iload (q0 := 129) (j := 6) rfl dX8_carryMention_127 rfl ?_
        refine g_bipush (q0 := 131) rfl dX8_carryMention_129 (k := ?_)
        refine g_icmp_lt (q0 := 134) (tgt := 138) rfl dX8_carryMention_131 (by decide) (fun h131 => ?_) (fun h131 => ?_)
        · replace h := wI_pos h131 h
          refine g_iload (q0 := 140) (j := 6) rfl dX8_carryMention_138 rfl ?_
          refine g_bipush (q0 := 142) rfl dX8_carryMention_140 (k := ?_)
          refine g_icmp_lt (q0 := 145) (tgt := 149) rfl dX8_carryMention_142 (by decide) (fun h142 => ?_) (fun h142 => ?_)
          · replace h := wI_pos h142 h
            refine g_iconst (q0 := 150) rfl dX8_carryMention_149 (k := ?_)
            refine g_istore (q0 := 152) (j := 7) (lv2 := [_, _, _, _, _, _, _, _, _]) rfl dX8_carryMention_150 (by decide) rfl rfl ?_
            refine g_iload (q0 := 154) (j := 7) rfl dX8_carryMention_152 rfl ?_
            refine g_iconst (q0 := 155) rfl dX8_carryMention_154 (k := ?_)
            refine g_isubw (q0 := 156) rfl dX8_carryMention_155 ?_
            refine g_istore (q0 := 158) (j := 8) (lv2 := [_, _, _, _, _, _, _, _, _]) rfl dX8_carryMention_156 (by decide) rfl rfl ?_
            exact h
          · replace h := wI_neg (Int.not_lt.mpr h142) h
            refine g_iconst (q0 := 146) rfl dX8_carryMention_145 (k := ?_)
            refine g_goto (tgt := 150) dX8_carryMention_146 (by decide) ?_
            refine g_istore (q0 := 152) (j := 7) (lv2 := [_, _, _, _, _, _, _, _, _]) rfl dX8_carryMention_150 (by decide) rfl rfl ?_
            refine g_iload (q0 := 154) (j := 7) rfl dX8_carryMention_152 rfl ?_
            refine g_iconst (q0 := 155) rfl dX8_carryMention_154 (k := ?_)
            refine g_isubw (q0 := 156) rfl dX8_carryMention_155 ?_
            refine g_istore (q0 := 158) (j := 8) (lv2 := [_, _, _, _, _, _, _, _, _]) rfl dX8_carryMention_156 (by decide) rfl rfl ?_
            exact h
        · replace h := wI_neg (Int.not_lt.mpr h131) h
          refine g_iconst (q0 := 135) rfl dX8_carryMention_134 (k := ?_)
          refine g_goto (tgt := 150) dX8_carryMention_135 (by decide) ?_
          refine g_istore (q0 := 152) (j := 7) (lv2 := [_, _, _, _, _, _, _, _, _]) rfl dX8_carryMention_150 (by decide) rfl rfl ?_
          refine g_iload (q0 := 154) (j := 7) rfl dX8_carryMention_152 rfl ?_
          refine g_iconst (q0 := 155) rfl dX8_carryMention_154 (k := ?_)
          refine g_isubw (q0 := 156) rfl dX8_carryMention_155 ?_
          refine g_istore (q0 := 158) (j := 8) (lv2 := [_, _, _, _, _, _, _, _, _]) rfl dX8_carryMention_156 (by decide) rfl rfl ?_
          exact h
      · replace h := wI_pos h113 h
        refine g_aload_n (q0 := 117) (j := 0) rfl dX8_carryMention_116 rfl ?_
        refine g_getp (q0 := 120) (b := 380) rfl ff_X8_21 dX8_carryMention_117 rfl hOK1 (by decide) (sh_3 hOK1) rfl (by decide) ?_
        refine g_bipush (q0 := 122) rfl dX8_carryMention_120 (k := ?_)
        obtain ⟨P122, e122, h⟩ := h
        refine g_callVm (as := [_]) (rest := []) mt_X2_addToMessage mi_X2_addToMessage se_X2_addToMessage ml_X8_271 dX8_carryMention_122 (q0 := 125) rfl rfl (sh_380 hOK1) rfl rfl e122 rfl ⟨by decide, by decide⟩ (Nat.le_of_ble_eq_true rfl) ⟨Nat.zero_le _, Nat.zero_le _⟩ (fun r122 M122 hP122 hw122 hMw122 => ?_)
        obtain ⟨hr122, hOK3, h⟩ := h r122 M122 hP122
        subst hr122
        refine g_iconst (q0 := 126) rfl dX8_carryMention_125 (k := ?_)
        exact g_zreturn dX8_carryMention_126 rfl (gnz (Or.inr rfl)) ⟨Nat.zero_le _, Nat.zero_le _⟩ h
    · replace h := wI_pos h88 h
      refine g_iconst (q0 := 92) rfl dX8_carryMention_91 (k := ?_)
      exact g_zreturn dX8_carryMention_92 rfl (gnz (Or.inl rfl)) ⟨Nat.zero_le _, Nat.zero_le _⟩ h
  · replace h := wI_pos h48 h
    refine g_iload (q0 := 53) (j := 5) rfl dX8_carryMention_51 rfl ?_
    refine g_bipush (q0 := 55) rfl dX8_carryMention_53 (k := ?_)
    refine g_imulw (q0 := 56) rfl dX8_carryMention_55 ?_
    refine g_aload_n (q0 := 57) (j := 0) rfl dX8_carryMention_56 rfl ?_
    refine g_getp (q0 := 60) (b := 4) rfl ff_X8_12 dX8_carryMention_57 rfl hOK (by decide) (sh_3 hOK) rfl (by decide) ?_
    refine g_iload_n (q0 := 61) (j := 1) rfl dX8_carryMention_60 rfl ?_
    refine g_iload (q0 := 63) (j := 6) rfl dX8_carryMention_61 rfl ?_
    obtain ⟨v63, e63, h⟩ := h
    refine g_callVp (as := [_, _]) (rest := [_]) mt_X1_messageByte mi_X1_messageByte se_X1_messageByte ml_X8_244 dX8_carryMention_63 (q0 := 66) rfl rfl (sh_4 hOK) rfl rfl e63 rfl ⟨by decide, by decide⟩ (Nat.le_of_ble_eq_true rfl) ⟨Nat.zero_le _, Nat.zero_le _⟩ (fun _ => ?_)
    refine g_iaddw (q0 := 67) rfl dX8_carryMention_66 ?_
    refine g_bipush (q0 := 69) rfl dX8_carryMention_67 (k := ?_)
    refine g_isubw (q0 := 70) rfl dX8_carryMention_69 ?_
    refine g_istore (q0 := 72) (j := 5) (lv2 := [_, _, _, _, _, _, _, _, _]) rfl dX8_carryMention_70 (by decide) rfl rfl ?_
    refine g_iincw (q0 := 75) (lv2 := [_, _, _, _, _, _, _, _, _]) rfl dX8_carryMention_72 rfl (by decide) rfl rfl ?_
    refine g_goto (tgt := 45) dX8_carryMention_75 (by decide) ?_
    exact h
theorem w_X8_carryMention_158 {sh : gS} {Q : Option gV → gS → gM → Prop} {x1 x2 x3 x4 x5 x6 x7 x8 : Int} {M : gM} (hOK : gOK sh M) (h : (if x8 < 0 then
    (Q (some (0, 1)) sh M)
  else
    (∃ v173 : Int, gC (gr 0 0) yX0_digitFromBehind cX0_digitFromBehind 4 (some (.int)) [(0, x6), (0, x8)] sh M (gPp sh M (0, v173)) ∧
      (∃ P177 : Option gV → gM → Prop, gC (gr 0 0) yX2_addToMessage cX2_addToMessage 2 none [(4, 380), (0, (gw32 ((48 : Int) + v173)))] sh M (gPm sh P177) ∧ ∀ (r177 : Option gV) (M177 : gM), P177 r177 M177 → r177 = none ∧ gOK sh M177 ∧
        (P_X8_carryMention_158 sh Q x1 x2 x3 x4 x5 x6 x7 (gw32 (x8 + (-1))) M177))))) : P_X8_carryMention_158 sh Q x1 x2 x3 x4 x5 x6 x7 x8 M := by
  unfold P_X8_carryMention_158
  refine g_iload (q0 := 160) (j := 8) rfl dX8_carryMention_158 rfl ?_
  refine g_if_lt (q0 := 163) (tgt := 186) rfl dX8_carryMention_160 (by decide) (fun h160 => ?_) (fun h160 => ?_)
  · replace h := wI_pos h160 h
    refine g_iconst (q0 := 187) rfl dX8_carryMention_186 (k := ?_)
    exact g_zreturn dX8_carryMention_187 rfl (gnz (Or.inr rfl)) ⟨Nat.zero_le _, Nat.zero_le _⟩ h
  · replace h := wI_neg (Int.not_lt.mpr h160) h
    refine g_aload_n (q0 := 164) (j := 0) rfl dX8_carryMention_163 rfl ?_
    refine g_getp (q0 := 167) (b := 380) rfl ff_X8_21 dX8_carryMention_164 rfl hOK (by decide) (sh_3 hOK) rfl (by decide) ?_
    refine g_bipush (q0 := 169) rfl dX8_carryMention_167 (k := ?_)
    refine g_iload (q0 := 171) (j := 6) rfl dX8_carryMention_169 rfl ?_
    refine g_iload (q0 := 173) (j := 8) rfl dX8_carryMention_171 rfl ?_
    obtain ⟨v173, e173, h⟩ := h
    refine g_callSp (as := [_, _]) (rest := [_, _]) mt_X0_digitFromBehind ms_X0_digitFromBehind ml_X8_274 dX8_carryMention_173 (q0 := 176) rfl rfl e173 rfl ⟨by decide, by decide⟩ (Nat.le_of_ble_eq_true rfl) ⟨Nat.zero_le _, Nat.zero_le _⟩ (fun _ => ?_)
    refine g_iaddw (q0 := 177) rfl dX8_carryMention_176 ?_
    obtain ⟨P177, e177, h⟩ := h
    refine g_callVm (as := [_]) (rest := []) mt_X2_addToMessage mi_X2_addToMessage se_X2_addToMessage ml_X8_271 dX8_carryMention_177 (q0 := 180) rfl rfl (sh_380 hOK) rfl rfl e177 rfl ⟨by decide, by decide⟩ (Nat.le_of_ble_eq_true rfl) ⟨Nat.zero_le _, Nat.zero_le _⟩ (fun r177 M177 hP177 hw177 hMw177 => ?_)
    obtain ⟨hr177, hOK4, h⟩ := h r177 M177 hP177
    subst hr177
    refine g_iincw (q0 := 183) (lv2 := [_, _, _, _, _, _, _, _, _]) rfl dX8_carryMention_180 rfl (by decide) rfl rfl ?_
    refine g_goto (tgt := 158) dX8_carryMention_183 (by decide) ?_
    exact h
theorem w_X8_carryMention {sh : gS} {Q : Option gV → gS → gM → Prop} {a1 a2 a3 : Int} {M : gM} (hOK : gOK sh M) (h : (if (gw32 (a3 - a2)) < 1 then
    (Q (some (0, 0)) sh M)
  else
    (if (3 : Int) < (gw32 (a3 - a2)) then
      (Q (some (0, 0)) sh M)
    else
      (if (1 : Int) < (gw32 (a3 - a2)) then
        (∃ v29 : Int, gC (gr 0 0) yX1_messageByte cX1_messageByte 3 (some (.int)) [(4, 4), (0, a1), (0, a2)] sh M (gPp sh M (0, v29)) ∧
          (if v29 = 48 then
            (Q (some (0, 0)) sh M)
          else
            (P_X8_carryMention_45 sh Q a1 a2 a3 (gw32 (a3 - a2)) 0 a2 M)))
      else
        (P_X8_carryMention_45 sh Q a1 a2 a3 (gw32 (a3 - a2)) 0 a2 M))))) : gC (gr 1 23) yX8_carryMention cX8_carryMention 9 (some (.boolean)) [(4, 3), (0, a1), (0, a2), (0, a3)] sh M Q := by
  refine gC_ofA (lv := [_, _, _, _, _, _, _, _, _]) (by decide +kernel) (Nat.le_of_ble_eq_true rfl) rfl (fun hMw hav => ?_)
  refine g_iload_n (q0 := 1) (j := 3) rfl dX8_carryMention_0 rfl ?_
  refine g_iload_n (q0 := 2) (j := 2) rfl dX8_carryMention_1 rfl ?_
  refine g_isubw (q0 := 3) rfl dX8_carryMention_2 ?_
  refine g_istore (q0 := 5) (j := 4) (lv2 := [_, _, _, _, _, _, _, _, _]) rfl dX8_carryMention_3 (by decide) rfl rfl ?_
  refine g_iload (q0 := 7) (j := 4) rfl dX8_carryMention_5 rfl ?_
  refine g_iconst (q0 := 8) rfl dX8_carryMention_7 (k := ?_)
  refine g_icmp_lt (q0 := 11) (tgt := 37) rfl dX8_carryMention_8 (by decide) (fun h8 => ?_) (fun h8 => ?_)
  · replace h := wI_pos h8 h
    refine g_iconst (q0 := 38) rfl dX8_carryMention_37 (k := ?_)
    exact g_zreturn dX8_carryMention_38 rfl (gnz (Or.inl rfl)) ⟨Nat.zero_le _, Nat.zero_le _⟩ h
  · replace h := wI_neg (Int.not_lt.mpr h8) h
    refine g_iload (q0 := 13) (j := 4) rfl dX8_carryMention_11 rfl ?_
    refine g_iconst (q0 := 14) rfl dX8_carryMention_13 (k := ?_)
    refine g_icmp_gt (q0 := 17) (tgt := 37) rfl dX8_carryMention_14 (by decide) (fun h14 => ?_) (fun h14 => ?_)
    · replace h := wI_pos h14 h
      refine g_iconst (q0 := 38) rfl dX8_carryMention_37 (k := ?_)
      exact g_zreturn dX8_carryMention_38 rfl (gnz (Or.inl rfl)) ⟨Nat.zero_le _, Nat.zero_le _⟩ h
    · replace h := wI_neg (Int.not_lt.mpr h14) h
      refine g_iload (q0 := 19) (j := 4) rfl dX8_carryMention_17 rfl ?_
      refine g_iconst (q0 := 20) rfl dX8_carryMention_19 (k := ?_)
      refine g_icmp_le (q0 := 23) (tgt := 39) rfl dX8_carryMention_20 (by decide) (fun h20 => ?_) (fun h20 => ?_)
      · replace h := wI_neg (Int.not_lt.mpr h20) h
        refine g_iconst (q0 := 40) rfl dX8_carryMention_39 (k := ?_)
        refine g_istore (q0 := 42) (j := 5) (lv2 := [_, _, _, _, _, _, _, _, _]) rfl dX8_carryMention_40 (by decide) rfl rfl ?_
        refine g_iload_n (q0 := 43) (j := 2) rfl dX8_carryMention_42 rfl ?_
        refine g_istore (q0 := 45) (j := 6) (lv2 := [_, _, _, _, _, _, _, _, _]) rfl dX8_carryMention_43 (by decide) rfl rfl ?_
        exact h
      · replace h := wI_pos h20 h
        refine g_aload_n (q0 := 24) (j := 0) rfl dX8_carryMention_23 rfl ?_
        refine g_getp (q0 := 27) (b := 4) rfl ff_X8_12 dX8_carryMention_24 rfl hOK (by decide) (sh_3 hOK) rfl (by decide) ?_
        refine g_iload_n (q0 := 28) (j := 1) rfl dX8_carryMention_27 rfl ?_
        refine g_iload_n (q0 := 29) (j := 2) rfl dX8_carryMention_28 rfl ?_
        obtain ⟨v29, e29, h⟩ := h
        refine g_callVp (as := [_, _]) (rest := []) mt_X1_messageByte mi_X1_messageByte se_X1_messageByte ml_X8_244 dX8_carryMention_29 (q0 := 32) rfl rfl (sh_4 hOK) rfl rfl e29 rfl ⟨by decide, by decide⟩ (Nat.le_of_ble_eq_true rfl) ⟨Nat.zero_le _, Nat.zero_le _⟩ (fun _ => ?_)
        refine g_bipush (q0 := 34) rfl dX8_carryMention_32 (k := ?_)
        refine g_icmp_ne (q0 := 37) (tgt := 39) rfl dX8_carryMention_34 (by decide) (fun h34 => ?_) (fun h34 => ?_)
        · replace h := wI_neg h34 h
          refine g_iconst (q0 := 40) rfl dX8_carryMention_39 (k := ?_)
          refine g_istore (q0 := 42) (j := 5) (lv2 := [_, _, _, _, _, _, _, _, _]) rfl dX8_carryMention_40 (by decide) rfl rfl ?_
          refine g_iload_n (q0 := 43) (j := 2) rfl dX8_carryMention_42 rfl ?_
          refine g_istore (q0 := 45) (j := 6) (lv2 := [_, _, _, _, _, _, _, _, _]) rfl dX8_carryMention_43 (by decide) rfl rfl ?_
          exact h
        · replace h := wI_pos h34 h
          refine g_iconst (q0 := 38) rfl dX8_carryMention_37 (k := ?_)
          exact g_zreturn dX8_carryMention_38 rfl (gnz (Or.inl rfl)) ⟨Nat.zero_le _, Nat.zero_le _⟩ h
-- ==== X8_wordAt
theorem dX8_wordAt_0 : decode cX8_wordAt 0 = .ok (.iconst 0, 1) := by decide +kernel
theorem dX8_wordAt_1 : decode cX8_wordAt 1 = .ok (.istore 4, 2) := by decide +kernel
theorem dX8_wordAt_3 : decode cX8_wordAt 3 = .ok (.iload_n 2, 1) := by decide +kernel
theorem dX8_wordAt_4 : decode cX8_wordAt 4 = .ok (.istore 5, 2) := by decide +kernel
theorem dX8_wordAt_6 : decode cX8_wordAt 6 = .ok (.iload 5, 2) := by decide +kernel
theorem dX8_wordAt_8 : decode cX8_wordAt 8 = .ok (.iload_n 3, 1) := by decide +kernel
theorem dX8_wordAt_9 : decode cX8_wordAt 9 = .ok (.if_icmp .ge 31, 3) := by decide +kernel
theorem dX8_wordAt_12 : decode cX8_wordAt 12 = .ok (.iload 4, 2) := by decide +kernel
theorem dX8_wordAt_14 : decode cX8_wordAt 14 = .ok (.iconst 5, 1) := by decide +kernel
theorem dX8_wordAt_15 : decode cX8_wordAt 15 = .ok (.ishl, 1) := by decide +kernel
theorem dX8_wordAt_16 : decode cX8_wordAt 16 = .ok (.aload_n 0, 1) := by decide +kernel
theorem dX8_wordAt_17 : decode cX8_wordAt 17 = .ok (.getfield 12, 3) := by decide +kernel
theorem dX8_wordAt_20 : decode cX8_wordAt 20 = .ok (.iload_n 1, 1) := by decide +kernel
theorem dX8_wordAt_21 : decode cX8_wordAt 21 = .ok (.iload 5, 2) := by decide +kernel
theorem dX8_wordAt_23 : decode cX8_wordAt 23 = .ok (.invokevirtual 244, 3) := by decide +kernel
theorem dX8_wordAt_26 : decode cX8_wordAt 26 = .ok (.bipush 97, 2) := by decide +kernel
theorem dX8_wordAt_28 : decode cX8_wordAt 28 = .ok (.isub, 1) := by decide +kernel
theorem dX8_wordAt_29 : decode cX8_wordAt 29 = .ok (.iconst 1, 1) := by decide +kernel
theorem dX8_wordAt_30 : decode cX8_wordAt 30 = .ok (.iadd, 1) := by decide +kernel
theorem dX8_wordAt_31 : decode cX8_wordAt 31 = .ok (.ior, 1) := by decide +kernel
theorem dX8_wordAt_32 : decode cX8_wordAt 32 = .ok (.istore 4, 2) := by decide +kernel
theorem dX8_wordAt_34 : decode cX8_wordAt 34 = .ok (.iinc 5 1, 3) := by decide +kernel
theorem dX8_wordAt_37 : decode cX8_wordAt 37 = .ok (.goto (-31), 3) := by decide +kernel
theorem dX8_wordAt_40 : decode cX8_wordAt 40 = .ok (.iload 4, 2) := by decide +kernel
theorem dX8_wordAt_42 : decode cX8_wordAt 42 = .ok (.ireturn, 1) := by decide +kernel
def P_X8_wordAt_6 (sh : gS) (Q : Option gV → gS → gM → Prop) (x1 x2 x3 x4 x5 : Int) (M : gM) : Prop := gA (gr 1 22) yX8_wordAt cX8_wordAt 6 (some (.int)) Q (0, 0) 6 [(4, 3), (0, x1), (0, x2), (0, x3), (0, x4), (0, x5)] [] sh M
theorem w_X8_wordAt_6 {sh : gS} {Q : Option gV → gS → gM → Prop} {x1 x2 x3 x4 x5 : Int} {M : gM} (hOK : gOK sh M) (h : (if x5 < x3 then
    (∃ v23 : Int, gC (gr 0 0) yX1_messageByte cX1_messageByte 3 (some (.int)) [(4, 4), (0, x1), (0, x5)] sh M (gPp sh M (0, v23)) ∧
      (P_X8_wordAt_6 sh Q x1 x2 x3 (gor (gshl x4 5) (gw32 ((gw32 (v23 - (97 : Int))) + (1 : Int)))) (gw32 (x5 + 1)) M))
  else
    (Q (some (0, x4)) sh M))) : P_X8_wordAt_6 sh Q x1 x2 x3 x4 x5 M := by
  unfold P_X8_wordAt_6
  refine g_iload (q0 := 8) (j := 5) rfl dX8_wordAt_6 rfl ?_
  refine g_iload_n (q0 := 9) (j := 3) rfl dX8_wordAt_8 rfl ?_
  refine g_icmp_ge (q0 := 12) (tgt := 40) rfl dX8_wordAt_9 (by decide) (fun h9 => ?_) (fun h9 => ?_)
  · replace h := wI_neg (Int.not_lt.mpr h9) h
    refine g_iload (q0 := 42) (j := 4) rfl dX8_wordAt_40 rfl ?_
    exact g_ireturn dX8_wordAt_42 rfl ⟨Nat.zero_le _, Nat.zero_le _⟩ h
  · replace h := wI_pos h9 h
    refine g_iload (q0 := 14) (j := 4) rfl dX8_wordAt_12 rfl ?_
    refine g_iconst (q0 := 15) rfl dX8_wordAt_14 (k := ?_)
    refine g_ishl (q0 := 16) rfl dX8_wordAt_15 ?_
    refine g_aload_n (q0 := 17) (j := 0) rfl dX8_wordAt_16 rfl ?_
    refine g_getp (q0 := 20) (b := 4) rfl ff_X8_12 dX8_wordAt_17 rfl hOK (by decide) (sh_3 hOK) rfl (by decide) ?_
    refine g_iload_n (q0 := 21) (j := 1) rfl dX8_wordAt_20 rfl ?_
    refine g_iload (q0 := 23) (j := 5) rfl dX8_wordAt_21 rfl ?_
    obtain ⟨v23, e23, h⟩ := h
    refine g_callVp (as := [_, _]) (rest := [_]) mt_X1_messageByte mi_X1_messageByte se_X1_messageByte ml_X8_244 dX8_wordAt_23 (q0 := 26) rfl rfl (sh_4 hOK) rfl rfl e23 rfl ⟨by decide, by decide⟩ (Nat.le_of_ble_eq_true rfl) ⟨Nat.zero_le _, Nat.zero_le _⟩ (fun _ => ?_)
    refine g_bipush (q0 := 28) rfl dX8_wordAt_26 (k := ?_)
    refine g_isubw (q0 := 29) rfl dX8_wordAt_28 ?_
    refine g_iconst (q0 := 30) rfl dX8_wordAt_29 (k := ?_)
    refine g_iaddw (q0 := 31) rfl dX8_wordAt_30 ?_
    refine g_ior (q0 := 32) rfl dX8_wordAt_31 ?_
    refine g_istore (q0 := 34) (j := 4) (lv2 := [_, _, _, _, _, _]) rfl dX8_wordAt_32 (by decide) rfl rfl ?_
    refine g_iincw (q0 := 37) (lv2 := [_, _, _, _, _, _]) rfl dX8_wordAt_34 rfl (by decide) rfl rfl ?_
    refine g_goto (tgt := 6) dX8_wordAt_37 (by decide) ?_
    exact h
theorem w_X8_wordAt {sh : gS} {Q : Option gV → gS → gM → Prop} {a1 a2 a3 : Int} {M : gM} (hOK : gOK sh M) (h : (P_X8_wordAt_6 sh Q a1 a2 a3 0 a2 M)) : gC (gr 1 22) yX8_wordAt cX8_wordAt 6 (some (.int)) [(4, 3), (0, a1), (0, a2), (0, a3)] sh M Q := by
  refine gC_ofA (lv := [_, _, _, _, _, _]) (by decide +kernel) (Nat.le_of_ble_eq_true rfl) rfl (fun hMw hav => ?_)
  refine g_iconst (q0 := 1) rfl dX8_wordAt_0 (k := ?_)
  refine g_istore (q0 := 3) (j := 4) (lv2 := [_, _, _, _, _, _]) rfl dX8_wordAt_1 (by decide) rfl rfl ?_
  refine g_iload_n (q0 := 4) (j := 2) rfl dX8_wordAt_3 rfl ?_
  refine g_istore (q0 := 6) (j := 5) (lv2 := [_, _, _, _, _, _]) rfl dX8_wordAt_4 (by decide) rfl rfl ?_
  exact h
-- ==== X8_addWord
theorem dX8_addWord_0 : decode cX8_addWord 0 = .ok (.bipush 15, 2) := by decide +kernel
theorem dX8_addWord_2 : decode cX8_addWord 2 = .ok (.istore_n 2, 1) := by decide +kernel
theorem dX8_addWord_3 : decode cX8_addWord 3 = .ok (.iload_n 2, 1) := by decide +kernel
theorem dX8_addWord_4 : decode cX8_addWord 4 = .ok (.ifCond .lt 33, 3) := by decide +kernel
theorem dX8_addWord_7 : decode cX8_addWord 7 = .ok (.iload_n 1, 1) := by decide +kernel
theorem dX8_addWord_8 : decode cX8_addWord 8 = .ok (.iload_n 2, 1) := by decide +kernel
theorem dX8_addWord_9 : decode cX8_addWord 9 = .ok (.iushr, 1) := by decide +kernel
theorem dX8_addWord_10 : decode cX8_addWord 10 = .ok (.bipush 31, 2) := by decide +kernel
theorem dX8_addWord_12 : decode cX8_addWord 12 = .ok (.iand, 1) := by decide +kernel
theorem dX8_addWord_13 : decode cX8_addWord 13 = .ok (.istore_n 3, 1) := by decide +kernel
theorem dX8_addWord_14 : decode cX8_addWord 14 = .ok (.iload_n 3, 1) := by decide +kernel
theorem dX8_addWord_15 : decode cX8_addWord 15 = .ok (.ifCond .eq 16, 3) := by decide +kernel
theorem dX8_addWord_18 : decode cX8_addWord 18 = .ok (.aload_n 0, 1) := by decide +kernel
theorem dX8_addWord_19 : decode cX8_addWord 19 = .ok (.getfield 21, 3) := by decide +kernel
theorem dX8_addWord_22 : decode cX8_addWord 22 = .ok (.bipush 97, 2) := by decide +kernel
theorem dX8_addWord_24 : decode cX8_addWord 24 = .ok (.iload_n 3, 1) := by decide +kernel
theorem dX8_addWord_25 : decode cX8_addWord 25 = .ok (.iadd, 1) := by decide +kernel
theorem dX8_addWord_26 : decode cX8_addWord 26 = .ok (.iconst 1, 1) := by decide +kernel
theorem dX8_addWord_27 : decode cX8_addWord 27 = .ok (.isub, 1) := by decide +kernel
theorem dX8_addWord_28 : decode cX8_addWord 28 = .ok (.invokevirtual 271, 3) := by decide +kernel
theorem dX8_addWord_31 : decode cX8_addWord 31 = .ok (.iinc 2 (-5), 3) := by decide +kernel
theorem dX8_addWord_34 : decode cX8_addWord 34 = .ok (.goto (-31), 3) := by decide +kernel
theorem dX8_addWord_37 : decode cX8_addWord 37 = .ok (.return_, 1) := by decide +kernel
def P_X8_addWord_3 (sh : gS) (Q : Option gV → gS → gM → Prop) (x1 x2 : Int) (M : gM) : Prop := gA (gr 1 21) yX8_addWord cX8_addWord 4 none Q (0, 0) 3 [(4, 3), (0, x1), (0, x2), (9, 0)] [] sh M
theorem w_X8_addWord_3 {sh : gS} {Q : Option gV → gS → gM → Prop} {x1 x2 : Int} {M : gM} (hOK : gOK sh M) (h : (if x2 < 0 then
    (Q none sh M)
  else
    (if (gand (gushr x1 x2) 31) = 0 then
      (P_X8_addWord_3 sh Q x1 (gw32 (x2 + (-5))) M)
    else
      (∃ P28 : Option gV → gM → Prop, gC (gr 0 0) yX2_addToMessage cX2_addToMessage 2 none [(4, 380), (0, (gw32 ((gw32 ((97 : Int) + (gand (gushr x1 x2) 31))) - (1 : Int))))] sh M (gPm sh P28) ∧ ∀ (r28 : Option gV) (M28 : gM), P28 r28 M28 → r28 = none ∧ gOK sh M28 ∧
        (P_X8_addWord_3 sh Q x1 (gw32 (x2 + (-5))) M28))))) : P_X8_addWord_3 sh Q x1 x2 M := by
  unfold P_X8_addWord_3
  refine g_iload_n (q0 := 4) (j := 2) rfl dX8_addWord_3 rfl ?_
  refine g_if_lt (q0 := 7) (tgt := 37) rfl dX8_addWord_4 (by decide) (fun h4 => ?_) (fun h4 => ?_)
  · replace h := wI_pos h4 h
    exact g_return dX8_addWord_37 rfl ⟨Nat.zero_le _, Nat.zero_le _⟩ h
  · replace h := wI_neg (Int.not_lt.mpr h4) h
    refine g_iload_n (q0 := 8) (j := 1) rfl dX8_addWord_7 rfl ?_
    refine g_iload_n (q0 := 9) (j := 2) rfl dX8_addWord_8 rfl ?_
    refine g_iushr (q0 := 10) rfl dX8_addWord_9 ?_
    refine g_bipush (q0 := 12) rfl dX8_addWord_10 (k := ?_)
    refine g_iand (q0 := 13) rfl dX8_addWord_12 ?_
    refine g_istore_n (q0 := 14) (j := 3) (lv2 := [_, _, _, _]) rfl dX8_addWord_13 (by decide) rfl rfl ?_
    refine g_iload_n (q0 := 15) (j := 3) rfl dX8_addWord_14 rfl ?_
    refine g_if_eq (q0 := 18) (tgt := 31) rfl dX8_addWord_15 (by decide) (fun h15 => ?_) (fun h15 => ?_)
    · replace h := wI_pos h15 h
      refine g_iincw (q0 := 34) (lv2 := [_, _, _, _]) rfl dX8_addWord_31 rfl (by decide) rfl rfl ?_
      refine g_goto (tgt := 3) dX8_addWord_34 (by decide) ?_
      refine gA_jk (lv1 := [_, _, _, (9, 0)]) ⟨.inl rfl, .inl rfl, .inl rfl, .inr rfl, trivial⟩ ?_
      exact h
    · replace h := wI_neg h15 h
      refine g_aload_n (q0 := 19) (j := 0) rfl dX8_addWord_18 rfl ?_
      refine g_getp (q0 := 22) (b := 380) rfl ff_X8_21 dX8_addWord_19 rfl hOK (by decide) (sh_3 hOK) rfl (by decide) ?_
      refine g_bipush (q0 := 24) rfl dX8_addWord_22 (k := ?_)
      refine g_iload_n (q0 := 25) (j := 3) rfl dX8_addWord_24 rfl ?_
      refine g_iaddw (q0 := 26) rfl dX8_addWord_25 ?_
      refine g_iconst (q0 := 27) rfl dX8_addWord_26 (k := ?_)
      refine g_isubw (q0 := 28) rfl dX8_addWord_27 ?_
      obtain ⟨P28, e28, h⟩ := h
      refine g_callVm (as := [_]) (rest := []) mt_X2_addToMessage mi_X2_addToMessage se_X2_addToMessage ml_X8_271 dX8_addWord_28 (q0 := 31) rfl rfl (sh_380 hOK) rfl rfl e28 rfl ⟨by decide, by decide⟩ (Nat.le_of_ble_eq_true rfl) ⟨Nat.zero_le _, Nat.zero_le _⟩ (fun r28 M28 hP28 hw28 hMw28 => ?_)
      obtain ⟨hr28, hOK1, h⟩ := h r28 M28 hP28
      subst hr28
      refine g_iincw (q0 := 34) (lv2 := [_, _, _, _]) rfl dX8_addWord_31 rfl (by decide) rfl rfl ?_
      refine g_goto (tgt := 3) dX8_addWord_34 (by decide) ?_
      refine gA_jk (lv1 := [_, _, _, (9, 0)]) ⟨.inl rfl, .inl rfl, .inl rfl, .inr rfl, trivial⟩ ?_
      exact h
theorem w_X8_addWord {sh : gS} {Q : Option gV → gS → gM → Prop} {a1 : Int} {M : gM} (hOK : gOK sh M) (h : (P_X8_addWord_3 sh Q a1 15 M)) : gC (gr 1 21) yX8_addWord cX8_addWord 4 none [(4, 3), (0, a1)] sh M Q := by
  refine gC_ofA (lv := [_, _, _, _]) (by decide +kernel) (Nat.le_of_ble_eq_true rfl) rfl (fun hMw hav => ?_)
  refine g_bipush (q0 := 2) rfl dX8_addWord_0 (k := ?_)
  refine g_istore_n (q0 := 3) (j := 2) (lv2 := [_, _, _, _]) rfl dX8_addWord_2 (by decide) rfl rfl ?_
  exact h
-- ==== X11_feed
theorem dX11_feed_0 : decode cX11_feed 0 = .ok (.aload_n 0, 1) := by decide +kernel
theorem dX11_feed_1 : decode cX11_feed 1 = .ok (.getfield 10, 3) := by decide +kernel
theorem dX11_feed_4 : decode cX11_feed 4 = .ok (.getfield 103, 3) := by decide +kernel
theorem dX11_feed_7 : decode cX11_feed 7 = .ok (.bipush 20, 2) := by decide +kernel
theorem dX11_feed_9 : decode cX11_feed 9 = .ok (.iadd, 1) := by decide +kernel
theorem dX11_feed_10 : decode cX11_feed 10 = .ok (.sipush 260, 3) := by decide +kernel
theorem dX11_feed_13 : decode cX11_feed 13 = .ok (.if_icmp .le 5, 3) := by decide +kernel
theorem dX11_feed_16 : decode cX11_feed 16 = .ok (.iconst (-1), 1) := by decide +kernel
theorem dX11_feed_17 : decode cX11_feed 17 = .ok (.ireturn, 1) := by decide +kernel
theorem dX11_feed_18 : decode cX11_feed 18 = .ok (.aload_n 0, 1) := by decide +kernel
theorem dX11_feed_19 : decode cX11_feed 19 = .ok (.getfield 10, 3) := by decide +kernel
theorem dX11_feed_22 : decode cX11_feed 22 = .ok (.iload_n 1, 1) := by decide +kernel
theorem dX11_feed_23 : decode cX11_feed 23 = .ok (.invokevirtual 106, 3) := by decide +kernel
theorem dX11_feed_26 : decode cX11_feed 26 = .ok (.aload_n 0, 1) := by decide +kernel
theorem dX11_feed_27 : decode cX11_feed 27 = .ok (.getfield 10, 3) := by decide +kernel
theorem dX11_feed_30 : decode cX11_feed 30 = .ok (.iload_n 2, 1) := by decide +kernel
theorem dX11_feed_31 : decode cX11_feed 31 = .ok (.invokevirtual 106, 3) := by decide +kernel
theorem dX11_feed_34 : decode cX11_feed 34 = .ok (.aload_n 0, 1) := by decide +kernel
theorem dX11_feed_35 : decode cX11_feed 35 = .ok (.getfield 10, 3) := by decide +kernel
theorem dX11_feed_38 : decode cX11_feed 38 = .ok (.iload_n 3, 1) := by decide +kernel
theorem dX11_feed_39 : decode cX11_feed 39 = .ok (.invokevirtual 106, 3) := by decide +kernel
theorem dX11_feed_42 : decode cX11_feed 42 = .ok (.aload_n 0, 1) := by decide +kernel
theorem dX11_feed_43 : decode cX11_feed 43 = .ok (.getfield 10, 3) := by decide +kernel
theorem dX11_feed_46 : decode cX11_feed 46 = .ok (.iload 4, 2) := by decide +kernel
theorem dX11_feed_48 : decode cX11_feed 48 = .ok (.invokevirtual 106, 3) := by decide +kernel
theorem dX11_feed_51 : decode cX11_feed 51 = .ok (.aload_n 0, 1) := by decide +kernel
theorem dX11_feed_52 : decode cX11_feed 52 = .ok (.getfield 10, 3) := by decide +kernel
theorem dX11_feed_55 : decode cX11_feed 55 = .ok (.iload 5, 2) := by decide +kernel
theorem dX11_feed_57 : decode cX11_feed 57 = .ok (.invokevirtual 106, 3) := by decide +kernel
theorem dX11_feed_60 : decode cX11_feed 60 = .ok (.aload_n 0, 1) := by decide +kernel
theorem dX11_feed_61 : decode cX11_feed 61 = .ok (.getfield 10, 3) := by decide +kernel
theorem dX11_feed_64 : decode cX11_feed 64 = .ok (.getfield 103, 3) := by decide +kernel
theorem dX11_feed_67 : decode cX11_feed 67 = .ok (.ireturn, 1) := by decide +kernel
theorem w_X11_feed {sh : gS} {Q : Option gV → gS → gM → Prop} {a1 a2 a3 a4 a5 : Int} {M : gM} (hOK : gOK sh M) (h : (if (260 : Int) < (gw32 ((M 1 1) + (20 : Int))) then
    (Q (some (0, -1)) sh M)
  else
    (∃ P23 : Option gV → gM → Prop, gC (gr 0 0) yX9_add cX9_add 3 none [(4, 1), (0, a1)] sh M (gPm sh P23) ∧ ∀ (r23 : Option gV) (M23 : gM), P23 r23 M23 → r23 = none ∧ gOK sh M23 ∧
      (∃ P31 : Option gV → gM → Prop, gC (gr 0 0) yX9_add cX9_add 3 none [(4, 1), (0, a2)] sh M23 (gPm sh P31) ∧ ∀ (r31 : Option gV) (M31 : gM), P31 r31 M31 → r31 = none ∧ gOK sh M31 ∧
        (∃ P39 : Option gV → gM → Prop, gC (gr 0 0) yX9_add cX9_add 3 none [(4, 1), (0, a3)] sh M31 (gPm sh P39) ∧ ∀ (r39 : Option gV) (M39 : gM), P39 r39 M39 → r39 = none ∧ gOK sh M39 ∧
          (∃ P48 : Option gV → gM → Prop, gC (gr 0 0) yX9_add cX9_add 3 none [(4, 1), (0, a4)] sh M39 (gPm sh P48) ∧ ∀ (r48 : Option gV) (M48 : gM), P48 r48 M48 → r48 = none ∧ gOK sh M48 ∧
            (∃ P57 : Option gV → gM → Prop, gC (gr 0 0) yX9_add cX9_add 3 none [(4, 1), (0, a5)] sh M48 (gPm sh P57) ∧ ∀ (r57 : Option gV) (M57 : gM), P57 r57 M57 → r57 = none ∧ gOK sh M57 ∧
              (Q (some (0, (M57 1 1))) sh M57)))))))) : gC (gr 1 22) yX11_feed cX11_feed 6 (some (.int)) [(4, 0), (0, a1), (0, a2), (0, a3), (0, a4), (0, a5)] sh M Q := by
  refine gC_ofA (lv := [_, _, _, _, _, _]) (by decide +kernel) (Nat.le_of_ble_eq_true rfl) rfl (fun hMw hav => ?_)
  refine g_aload_n (q0 := 1) (j := 0) rfl dX11_feed_0 rfl ?_
  refine g_getp (q0 := 4) (b := 1) rfl ff_X11_10 dX11_feed_1 rfl hOK (by decide) (sh_0 hOK) rfl (by decide) ?_
  refine g_getf (q0 := 7) (t := 0) (fi := 1) rfl rfl ff_X11_103 dX11_feed_4 rfl (sh_1 hOK) ?_
  refine g_bipush (q0 := 9) rfl dX11_feed_7 (k := ?_)
  refine g_iaddw (q0 := 10) rfl dX11_feed_9 ?_
  refine g_sipush (q0 := 13) rfl dX11_feed_10 (k := ?_)
  refine g_icmp_le (q0 := 16) (tgt := 18) rfl dX11_feed_13 (by decide) (fun h13 => ?_) (fun h13 => ?_)
  · replace h := wI_neg (Int.not_lt.mpr h13) h
    refine g_aload_n (q0 := 19) (j := 0) rfl dX11_feed_18 rfl ?_
    refine g_getp (q0 := 22) (b := 1) rfl ff_X11_10 dX11_feed_19 rfl hOK (by decide) (sh_0 hOK) rfl (by decide) ?_
    refine g_iload_n (q0 := 23) (j := 1) rfl dX11_feed_22 rfl ?_
    obtain ⟨P23, e23, h⟩ := h
    refine g_callVm (as := [_]) (rest := []) mt_X9_add mi_X9_add se_X9_add ml_X11_106 dX11_feed_23 (q0 := 26) rfl rfl (sh_1 hOK) rfl rfl e23 rfl ⟨by decide, by decide⟩ (Nat.le_of_ble_eq_true rfl) ⟨Nat.zero_le _, Nat.zero_le _⟩ (fun r23 M23 hP23 hw23 hMw23 => ?_)
    obtain ⟨hr23, hOK1, h⟩ := h r23 M23 hP23
    subst hr23
    refine g_aload_n (q0 := 27) (j := 0) rfl dX11_feed_26 rfl ?_
    refine g_getp (q0 := 30) (b := 1) rfl ff_X11_10 dX11_feed_27 rfl hOK1 (by decide) (sh_0 hOK1) rfl (by decide) ?_
    refine g_iload_n (q0 := 31) (j := 2) rfl dX11_feed_30 rfl ?_
    obtain ⟨P31, e31, h⟩ := h
    refine g_callVm (as := [_]) (rest := []) mt_X9_add mi_X9_add se_X9_add ml_X11_106 dX11_feed_31 (q0 := 34) rfl rfl (sh_1 hOK1) rfl rfl e31 rfl ⟨by decide, by decide⟩ (Nat.le_of_ble_eq_true rfl) ⟨Nat.zero_le _, Nat.zero_le _⟩ (fun r31 M31 hP31 hw31 hMw31 => ?_)
    obtain ⟨hr31, hOK2, h⟩ := h r31 M31 hP31
    subst hr31
    refine g_aload_n (q0 := 35) (j := 0) rfl dX11_feed_34 rfl ?_
    refine g_getp (q0 := 38) (b := 1) rfl ff_X11_10 dX11_feed_35 rfl hOK2 (by decide) (sh_0 hOK2) rfl (by decide) ?_
    refine g_iload_n (q0 := 39) (j := 3) rfl dX11_feed_38 rfl ?_
    obtain ⟨P39, e39, h⟩ := h
    refine g_callVm (as := [_]) (rest := []) mt_X9_add mi_X9_add se_X9_add ml_X11_106 dX11_feed_39 (q0 := 42) rfl rfl (sh_1 hOK2) rfl rfl e39 rfl ⟨by decide, by decide⟩ (Nat.le_of_ble_eq_true rfl) ⟨Nat.zero_le _, Nat.zero_le _⟩ (fun r39 M39 hP39 hw39 hMw39 => ?_)
    obtain ⟨hr39, hOK3, h⟩ := h r39 M39 hP39
    subst hr39
    refine g_aload_n (q0 := 43) (j := 0) rfl dX11_feed_42 rfl ?_
    refine g_getp (q0 := 46) (b := 1) rfl ff_X11_10 dX11_feed_43 rfl hOK3 (by decide) (sh_0 hOK3) rfl (by decide) ?_
    refine g_iload (q0 := 48) (j := 4) rfl dX11_feed_46 rfl ?_
    obtain ⟨P48, e48, h⟩ := h
    refine g_callVm (as := [_]) (rest := []) mt_X9_add mi_X9_add se_X9_add ml_X11_106 dX11_feed_48 (q0 := 51) rfl rfl (sh_1 hOK3) rfl rfl e48 rfl ⟨by decide, by decide⟩ (Nat.le_of_ble_eq_true rfl) ⟨Nat.zero_le _, Nat.zero_le _⟩ (fun r48 M48 hP48 hw48 hMw48 => ?_)
    obtain ⟨hr48, hOK4, h⟩ := h r48 M48 hP48
    subst hr48
    refine g_aload_n (q0 := 52) (j := 0) rfl dX11_feed_51 rfl ?_
    refine g_getp (q0 := 55) (b := 1) rfl ff_X11_10 dX11_feed_52 rfl hOK4 (by decide) (sh_0 hOK4) rfl (by decide) ?_
    refine g_iload (q0 := 57) (j := 5) rfl dX11_feed_55 rfl ?_
    obtain ⟨P57, e57, h⟩ := h
    refine g_callVm (as := [_]) (rest := []) mt_X9_add mi_X9_add se_X9_add ml_X11_106 dX11_feed_57 (q0 := 60) rfl rfl (sh_1 hOK4) rfl rfl e57 rfl ⟨by decide, by decide⟩ (Nat.le_of_ble_eq_true rfl) ⟨Nat.zero_le _, Nat.zero_le _⟩ (fun r57 M57 hP57 hw57 hMw57 => ?_)
    obtain ⟨hr57, hOK5, h⟩ := h r57 M57 hP57
    subst hr57
    refine g_aload_n (q0 := 61) (j := 0) rfl dX11_feed_60 rfl ?_
    refine g_getp (q0 := 64) (b := 1) rfl ff_X11_10 dX11_feed_61 rfl hOK5 (by decide) (sh_0 hOK5) rfl (by decide) ?_
    refine g_getf (q0 := 67) (t := 0) (fi := 1) rfl rfl ff_X11_103 dX11_feed_64 rfl (sh_1 hOK5) ?_
    exact g_ireturn dX11_feed_67 rfl ⟨Nat.zero_le _, Nat.zero_le _⟩ h
  · replace h := wI_pos h13 h
    refine g_iconst (q0 := 17) rfl dX11_feed_16 (k := ?_)
    exact g_ireturn dX11_feed_17 rfl ⟨Nat.zero_le _, Nat.zero_le _⟩ h
-- ==== X11_commit
theorem dX11_commit_0 : decode cX11_commit 0 = .ok (.iload_n 1, 1) := by decide +kernel
theorem dX11_commit_1 : decode cX11_commit 1 = .ok (.iconst 1, 1) := by decide +kernel
theorem dX11_commit_2 : decode cX11_commit 2 = .ok (.if_icmp .lt 35, 3) := by decide +kernel
theorem dX11_commit_5 : decode cX11_commit 5 = .ok (.iload_n 1, 1) := by decide +kernel
theorem dX11_commit_6 : decode cX11_commit 6 = .ok (.sipush 160, 3) := by decide +kernel
theorem dX11_commit_9 : decode cX11_commit 9 = .ok (.if_icmp .gt 28, 3) := by decide +kernel
theorem dX11_commit_12 : decode cX11_commit 12 = .ok (.iload_n 1, 1) := by decide +kernel
theorem dX11_commit_13 : decode cX11_commit 13 = .ok (.aload_n 0, 1) := by decide +kernel
theorem dX11_commit_14 : decode cX11_commit 14 = .ok (.getfield 10, 3) := by decide +kernel
theorem dX11_commit_17 : decode cX11_commit 17 = .ok (.getfield 103, 3) := by decide +kernel
theorem dX11_commit_20 : decode cX11_commit 20 = .ok (.if_icmp .gt 17, 3) := by decide +kernel
theorem dX11_commit_23 : decode cX11_commit 23 = .ok (.iload_n 2, 1) := by decide +kernel
theorem dX11_commit_24 : decode cX11_commit 24 = .ok (.invokestatic 109, 3) := by decide +kernel
theorem dX11_commit_27 : decode cX11_commit 27 = .ok (.ifCond .eq 10, 3) := by decide +kernel
theorem dX11_commit_30 : decode cX11_commit 30 = .ok (.iload_n 3, 1) := by decide +kernel
theorem dX11_commit_31 : decode cX11_commit 31 = .ok (.invokestatic 113, 3) := by decide +kernel
theorem dX11_commit_34 : decode cX11_commit 34 = .ok (.ifCond .ne 5, 3) := by decide +kernel
theorem dX11_commit_37 : decode cX11_commit 37 = .ok (.iconst (-1), 1) := by decide +kernel
theorem dX11_commit_38 : decode cX11_commit 38 = .ok (.ireturn, 1) := by decide +kernel
theorem dX11_commit_39 : decode cX11_commit 39 = .ok (.aload_n 0, 1) := by decide +kernel
theorem dX11_commit_40 : decode cX11_commit 40 = .ok (.getfield 31, 3) := by decide +kernel
theorem dX11_commit_43 : decode cX11_commit 43 = .ok (.aload_n 0, 1) := by decide +kernel
theorem dX11_commit_44 : decode cX11_commit 44 = .ok (.getfield 10, 3) := by decide +kernel
theorem dX11_commit_47 : decode cX11_commit 47 = .ok (.iload_n 1, 1) := by decide +kernel
theorem dX11_commit_48 : decode cX11_commit 48 = .ok (.aload_n 0, 1) := by decide +kernel
theorem dX11_commit_49 : decode cX11_commit 49 = .ok (.getfield 27, 3) := by decide +kernel
theorem dX11_commit_52 : decode cX11_commit 52 = .ok (.invokevirtual 116, 3) := by decide +kernel
theorem dX11_commit_55 : decode cX11_commit 55 = .ok (.istore 4, 2) := by decide +kernel
theorem dX11_commit_57 : decode cX11_commit 57 = .ok (.aload_n 0, 1) := by decide +kernel
theorem dX11_commit_58 : decode cX11_commit 58 = .ok (.getfield 10, 3) := by decide +kernel
theorem dX11_commit_61 : decode cX11_commit 61 = .ok (.iconst 0, 1) := by decide +kernel
theorem dX11_commit_62 : decode cX11_commit 62 = .ok (.putfield 103, 3) := by decide +kernel
theorem dX11_commit_65 : decode cX11_commit 65 = .ok (.iload 4, 2) := by decide +kernel
theorem dX11_commit_67 : decode cX11_commit 67 = .ok (.ifCond .eq 6, 3) := by decide +kernel
theorem dX11_commit_70 : decode cX11_commit 70 = .ok (.iload 4, 2) := by decide +kernel
theorem dX11_commit_72 : decode cX11_commit 72 = .ok (.ireturn, 1) := by decide +kernel
theorem dX11_commit_73 : decode cX11_commit 73 = .ok (.aload_n 0, 1) := by decide +kernel
theorem dX11_commit_74 : decode cX11_commit 74 = .ok (.getfield 31, 3) := by decide +kernel
theorem dX11_commit_77 : decode cX11_commit 77 = .ok (.iload_n 2, 1) := by decide +kernel
theorem dX11_commit_78 : decode cX11_commit 78 = .ok (.putfield 120, 3) := by decide +kernel
theorem dX11_commit_81 : decode cX11_commit 81 = .ok (.aload_n 0, 1) := by decide +kernel
theorem dX11_commit_82 : decode cX11_commit 82 = .ok (.getfield 31, 3) := by decide +kernel
theorem dX11_commit_85 : decode cX11_commit 85 = .ok (.iload_n 3, 1) := by decide +kernel
theorem dX11_commit_86 : decode cX11_commit 86 = .ok (.putfield 123, 3) := by decide +kernel
theorem dX11_commit_89 : decode cX11_commit 89 = .ok (.aload_n 0, 1) := by decide +kernel
theorem dX11_commit_90 : decode cX11_commit 90 = .ok (.getfield 27, 3) := by decide +kernel
theorem dX11_commit_93 : decode cX11_commit 93 = .ok (.aload_n 0, 1) := by decide +kernel
theorem dX11_commit_94 : decode cX11_commit 94 = .ok (.getfield 31, 3) := by decide +kernel
theorem dX11_commit_97 : decode cX11_commit 97 = .ok (.invokevirtual 126, 3) := by decide +kernel
theorem dX11_commit_100 : decode cX11_commit 100 = .ok (.ireturn, 1) := by decide +kernel
theorem w_X11_commit {sh : gS} {Q : Option gV → gS → gM → Prop} {a1 a2 a3 : Int} {M : gM} (hOK : gOK sh M) (h : (if a1 < 1 then
    (Q (some (0, -1)) sh M)
  else
    (if (160 : Int) < a1 then
      (Q (some (0, -1)) sh M)
    else
      (if (M 1 1) < a1 then
        (Q (some (0, -1)) sh M)
      else
        (∃ v24 : Int, gC (gr 0 0) yX11_isWho cX11_isWho 1 (some (.boolean)) [(0, a2)] sh M (gPp sh M (0, v24)) ∧
          (if v24 = 0 then
            (Q (some (0, -1)) sh M)
          else
            (∃ v31 : Int, gC (gr 0 0) yX11_isHour cX11_isHour 1 (some (.boolean)) [(0, a3)] sh M (gPp sh M (0, v31)) ∧
              (if v31 = 0 then
                (Q (some (0, -1)) sh M)
              else
                (∃ P52 : Option gV → gM → Prop, gC (gr 5 163) yX2_read cX2_read 4 (some (.int)) [(4, 399), (4, 1), (0, a1), (4, 4)] sh M (gPm sh P52) ∧ ∀ (r52 : Option gV) (M52 : gM), P52 r52 M52 → ∃ v52 : Int, r52 = some (0, v52) ∧ gOK sh M52 ∧
                  (if v52 = 0 then
                    (∃ P97 : Option gV → gM → Prop, gC (gr 3 114) yX1_settle cX1_settle 4 (some (.int)) [(4, 4), (4, 399)] sh (gU (gU (gU M52 1 1 0) 399 5 a2) 399 6 a3) (gPm sh P97) ∧ ∀ (r97 : Option gV) (M97 : gM), P97 r97 M97 → ∃ v97 : Int, r97 = some (0, v97) ∧ gOK sh M97 ∧
                      (Q (some (0, v97)) sh M97))
                  else
                    (Q (some (0, v52)) sh (gU M52 1 1 0)))))))))))) : gC (gr 6 186) yX11_commit cX11_commit 5 (some (.int)) [(4, 0), (0, a1), (0, a2), (0, a3)] sh M Q := by
  refine gC_ofA (lv := [_, _, _, _, _]) (by decide +kernel) (Nat.le_of_ble_eq_true rfl) rfl (fun hMw hav => ?_)
  refine g_iload_n (q0 := 1) (j := 1) rfl dX11_commit_0 rfl ?_
  refine g_iconst (q0 := 2) rfl dX11_commit_1 (k := ?_)
  refine g_icmp_lt (q0 := 5) (tgt := 37) rfl dX11_commit_2 (by decide) (fun h2 => ?_) (fun h2 => ?_)
  · replace h := wI_pos h2 h
    refine g_iconst (q0 := 38) rfl dX11_commit_37 (k := ?_)
    exact g_ireturn dX11_commit_38 rfl ⟨Nat.zero_le _, Nat.zero_le _⟩ h
  · replace h := wI_neg (Int.not_lt.mpr h2) h
    refine g_iload_n (q0 := 6) (j := 1) rfl dX11_commit_5 rfl ?_
    refine g_sipush (q0 := 9) rfl dX11_commit_6 (k := ?_)
    refine g_icmp_gt (q0 := 12) (tgt := 37) rfl dX11_commit_9 (by decide) (fun h9 => ?_) (fun h9 => ?_)
    · replace h := wI_pos h9 h
      refine g_iconst (q0 := 38) rfl dX11_commit_37 (k := ?_)
      exact g_ireturn dX11_commit_38 rfl ⟨Nat.zero_le _, Nat.zero_le _⟩ h
    · replace h := wI_neg (Int.not_lt.mpr h9) h
      refine g_iload_n (q0 := 13) (j := 1) rfl dX11_commit_12 rfl ?_
      refine g_aload_n (q0 := 14) (j := 0) rfl dX11_commit_13 rfl ?_
      refine g_getp (q0 := 17) (b := 1) rfl ff_X11_10 dX11_commit_14 rfl hOK (by decide) (sh_0 hOK) rfl (by decide) ?_
      refine g_getf (q0 := 20) (t := 0) (fi := 1) rfl rfl ff_X11_103 dX11_commit_17 rfl (sh_1 hOK) ?_
      refine g_icmp_gt (q0 := 23) (tgt := 37) rfl dX11_commit_20 (by decide) (fun h20 => ?_) (fun h20 => ?_)
      · replace h := wI_pos h20 h
        refine g_iconst (q0 := 38) rfl dX11_commit_37 (k := ?_)
        exact g_ireturn dX11_commit_38 rfl ⟨Nat.zero_le _, Nat.zero_le _⟩ h
      · replace h := wI_neg (Int.not_lt.mpr h20) h
        refine g_iload_n (q0 := 24) (j := 2) rfl dX11_commit_23 rfl ?_
        obtain ⟨v24, e24, h⟩ := h
        refine g_callSp (as := [_]) (rest := []) mt_X11_isWho ms_X11_isWho ml_X11_109 dX11_commit_24 (q0 := 27) rfl rfl e24 rfl ⟨by decide, by decide⟩ (Nat.le_of_ble_eq_true rfl) ⟨Nat.zero_le _, Nat.zero_le _⟩ (fun _ => ?_)
        refine g_if_eq (q0 := 30) (tgt := 37) rfl dX11_commit_27 (by decide) (fun h27 => ?_) (fun h27 => ?_)
        · replace h := wI_pos h27 h
          refine g_iconst (q0 := 38) rfl dX11_commit_37 (k := ?_)
          exact g_ireturn dX11_commit_38 rfl ⟨Nat.zero_le _, Nat.zero_le _⟩ h
        · replace h := wI_neg h27 h
          refine g_iload_n (q0 := 31) (j := 3) rfl dX11_commit_30 rfl ?_
          obtain ⟨v31, e31, h⟩ := h
          refine g_callSp (as := [_]) (rest := []) mt_X11_isHour ms_X11_isHour ml_X11_113 dX11_commit_31 (q0 := 34) rfl rfl e31 rfl ⟨by decide, by decide⟩ (Nat.le_of_ble_eq_true rfl) ⟨Nat.zero_le _, Nat.zero_le _⟩ (fun _ => ?_)
          refine g_if_ne (q0 := 37) (tgt := 39) rfl dX11_commit_34 (by decide) (fun h34 => ?_) (fun h34 => ?_)
          · replace h := wI_neg h34 h
            refine g_aload_n (q0 := 40) (j := 0) rfl dX11_commit_39 rfl ?_
            refine g_getp (q0 := 43) (b := 399) rfl ff_X11_31 dX11_commit_40 rfl hOK (by decide) (sh_0 hOK) rfl (by decide) ?_
            refine g_aload_n (q0 := 44) (j := 0) rfl dX11_commit_43 rfl ?_
            refine g_getp (q0 := 47) (b := 1) rfl ff_X11_10 dX11_commit_44 rfl hOK (by decide) (sh_0 hOK) rfl (by decide) ?_
            refine g_iload_n (q0 := 48) (j := 1) rfl dX11_commit_47 rfl ?_
            refine g_aload_n (q0 := 49) (j := 0) rfl dX11_commit_48 rfl ?_
            refine g_getp (q0 := 52) (b := 4) rfl ff_X11_27 dX11_commit_49 rfl hOK (by decide) (sh_0 hOK) rfl (by decide) ?_
            obtain ⟨P52, e52, h⟩ := h
            refine g_callVm (as := [_, _, _]) (rest := []) mt_X2_read mi_X2_read se_X2_read ml_X11_116 dX11_commit_52 (q0 := 55) rfl rfl (sh_399 hOK) rfl rfl e52 rfl ⟨by decide, by decide⟩ (Nat.le_of_ble_eq_true rfl) ⟨Nat.zero_le _, Nat.zero_le _⟩ (fun r52 M52 hP52 hw52 hMw52 => ?_)
            obtain ⟨v52, hr52, hOK1, h⟩ := h r52 M52 hP52
            subst hr52
            refine g_istore (q0 := 57) (j := 4) (lv2 := [_, _, _, _, _]) rfl dX11_commit_55 (by decide) rfl rfl ?_
            refine g_aload_n (q0 := 58) (j := 0) rfl dX11_commit_57 rfl ?_
            refine g_getp (q0 := 61) (b := 1) rfl ff_X11_10 dX11_commit_58 rfl hOK1 (by decide) (sh_0 hOK1) rfl (by decide) ?_
            refine g_iconst (q0 := 62) rfl dX11_commit_61 (k := ?_)
            refine g_put (q0 := 65) (t := 0) (fi := 1) rfl rfl ff_X11_103 dX11_commit_62 rfl (sh_1 hOK1) rfl (fun _ => ⟨rfl, rfl⟩) ?_
            have hOK2 : gOK sh (gU M52 1 1 0) := gOK_o hOK1 (sh_1 hOK1) (f := 1) rfl rfl
            refine g_iload (q0 := 67) (j := 4) rfl dX11_commit_65 rfl ?_
            refine g_if_eq (q0 := 70) (tgt := 73) rfl dX11_commit_67 (by decide) (fun h67 => ?_) (fun h67 => ?_)
            · replace h := wI_pos h67 h
              refine g_aload_n (q0 := 74) (j := 0) rfl dX11_commit_73 rfl ?_
              refine g_getp (q0 := 77) (b := 399) rfl ff_X11_31 dX11_commit_74 rfl hOK2 (by decide) (sh_0 hOK2) rfl (by decide) ?_
              refine g_iload_n (q0 := 78) (j := 2) rfl dX11_commit_77 rfl ?_
              refine g_put (q0 := 81) (t := 0) (fi := 5) rfl rfl ff_X11_120 dX11_commit_78 rfl (sh_399 hOK2) rfl (fun _ => ⟨rfl, rfl⟩) ?_
              have hOK3 : gOK sh (gU (gU M52 1 1 0) 399 5 a2) := gOK_o hOK2 (sh_399 hOK2) (f := 5) rfl rfl
              refine g_aload_n (q0 := 82) (j := 0) rfl dX11_commit_81 rfl ?_
              refine g_getp (q0 := 85) (b := 399) rfl ff_X11_31 dX11_commit_82 rfl hOK3 (by decide) (sh_0 hOK3) rfl (by decide) ?_
              refine g_iload_n (q0 := 86) (j := 3) rfl dX11_commit_85 rfl ?_
              refine g_put (q0 := 89) (t := 0) (fi := 6) rfl rfl ff_X11_123 dX11_commit_86 rfl (sh_399 hOK3) rfl (fun _ => ⟨rfl, rfl⟩) ?_
              have hOK4 : gOK sh (gU (gU (gU M52 1 1 0) 399 5 a2) 399 6 a3) := gOK_o hOK3 (sh_399 hOK3) (f := 6) rfl rfl
              refine g_aload_n (q0 := 90) (j := 0) rfl dX11_commit_89 rfl ?_
              refine g_getp (q0 := 93) (b := 4) rfl ff_X11_27 dX11_commit_90 rfl hOK4 (by decide) (sh_0 hOK4) rfl (by decide) ?_
              refine g_aload_n (q0 := 94) (j := 0) rfl dX11_commit_93 rfl ?_
              refine g_getp (q0 := 97) (b := 399) rfl ff_X11_31 dX11_commit_94 rfl hOK4 (by decide) (sh_0 hOK4) rfl (by decide) ?_
              obtain ⟨P97, e97, h⟩ := h
              refine g_callVm (as := [_]) (rest := []) mt_X1_settle mi_X1_settle se_X1_settle ml_X11_126 dX11_commit_97 (q0 := 100) rfl rfl (sh_4 hOK4) rfl rfl e97 rfl ⟨by decide, by decide⟩ (Nat.le_of_ble_eq_true rfl) ⟨Nat.zero_le _, Nat.zero_le _⟩ (fun r97 M97 hP97 hw97 hMw97 => ?_)
              obtain ⟨v97, hr97, hOK5, h⟩ := h r97 M97 hP97
              subst hr97
              exact g_ireturn dX11_commit_100 rfl ⟨Nat.zero_le _, Nat.zero_le _⟩ h
            · replace h := wI_neg h67 h
              refine g_iload (q0 := 72) (j := 4) rfl dX11_commit_70 rfl ?_
              exact g_ireturn dX11_commit_72 rfl ⟨Nat.zero_le _, Nat.zero_le _⟩ h
          · replace h := wI_pos h34 h
            refine g_iconst (q0 := 38) rfl dX11_commit_37 (k := ?_)
            exact g_ireturn dX11_commit_38 rfl ⟨Nat.zero_le _, Nat.zero_le _⟩ h
-- ==== X11_plan
theorem dX11_plan_0 : decode cX11_plan 0 = .ok (.iload_n 1, 1) := by decide +kernel
theorem dX11_plan_1 : decode cX11_plan 1 = .ok (.invokestatic 132, 3) := by decide +kernel
theorem dX11_plan_4 : decode cX11_plan 4 = .ok (.ifCond .eq 26, 3) := by decide +kernel
theorem dX11_plan_7 : decode cX11_plan 7 = .ok (.iload_n 2, 1) := by decide +kernel
theorem dX11_plan_8 : decode cX11_plan 8 = .ok (.iconst 1, 1) := by decide +kernel
theorem dX11_plan_9 : decode cX11_plan 9 = .ok (.if_icmp .lt 21, 3) := by decide +kernel
theorem dX11_plan_12 : decode cX11_plan 12 = .ok (.iload_n 2, 1) := by decide +kernel
theorem dX11_plan_13 : decode cX11_plan 13 = .ok (.sipush 240, 3) := by decide +kernel
theorem dX11_plan_16 : decode cX11_plan 16 = .ok (.if_icmp .gt 14, 3) := by decide +kernel
theorem dX11_plan_19 : decode cX11_plan 19 = .ok (.iload_n 2, 1) := by decide +kernel
theorem dX11_plan_20 : decode cX11_plan 20 = .ok (.aload_n 0, 1) := by decide +kernel
theorem dX11_plan_21 : decode cX11_plan 21 = .ok (.getfield 10, 3) := by decide +kernel
theorem dX11_plan_24 : decode cX11_plan 24 = .ok (.getfield 103, 3) := by decide +kernel
theorem dX11_plan_27 : decode cX11_plan 27 = .ok (.if_icmp .le 5, 3) := by decide +kernel
theorem dX11_plan_30 : decode cX11_plan 30 = .ok (.iconst (-1), 1) := by decide +kernel
theorem dX11_plan_31 : decode cX11_plan 31 = .ok (.ireturn, 1) := by decide +kernel
theorem dX11_plan_32 : decode cX11_plan 32 = .ok (.aload_n 0, 1) := by decide +kernel
theorem dX11_plan_33 : decode cX11_plan 33 = .ok (.getfield 50, 3) := by decide +kernel
theorem dX11_plan_36 : decode cX11_plan 36 = .ok (.aload_n 0, 1) := by decide +kernel
theorem dX11_plan_37 : decode cX11_plan 37 = .ok (.getfield 10, 3) := by decide +kernel
theorem dX11_plan_40 : decode cX11_plan 40 = .ok (.iload_n 2, 1) := by decide +kernel
theorem dX11_plan_41 : decode cX11_plan 41 = .ok (.aload_n 0, 1) := by decide +kernel
theorem dX11_plan_42 : decode cX11_plan 42 = .ok (.getfield 27, 3) := by decide +kernel
theorem dX11_plan_45 : decode cX11_plan 45 = .ok (.getfield 135, 3) := by decide +kernel
theorem dX11_plan_48 : decode cX11_plan 48 = .ok (.invokevirtual 138, 3) := by decide +kernel
theorem dX11_plan_51 : decode cX11_plan 51 = .ok (.istore_n 3, 1) := by decide +kernel
theorem dX11_plan_52 : decode cX11_plan 52 = .ok (.aload_n 0, 1) := by decide +kernel
theorem dX11_plan_53 : decode cX11_plan 53 = .ok (.getfield 10, 3) := by decide +kernel
theorem dX11_plan_56 : decode cX11_plan 56 = .ok (.iconst 0, 1) := by decide +kernel
theorem dX11_plan_57 : decode cX11_plan 57 = .ok (.putfield 103, 3) := by decide +kernel
theorem dX11_plan_60 : decode cX11_plan 60 = .ok (.iload_n 3, 1) := by decide +kernel
theorem dX11_plan_61 : decode cX11_plan 61 = .ok (.ifCond .eq 5, 3) := by decide +kernel
theorem dX11_plan_64 : decode cX11_plan 64 = .ok (.iload_n 3, 1) := by decide +kernel
theorem dX11_plan_65 : decode cX11_plan 65 = .ok (.ireturn, 1) := by decide +kernel
theorem dX11_plan_66 : decode cX11_plan 66 = .ok (.aload_n 0, 1) := by decide +kernel
theorem dX11_plan_67 : decode cX11_plan 67 = .ok (.getfield 43, 3) := by decide +kernel
theorem dX11_plan_70 : decode cX11_plan 70 = .ok (.iload_n 1, 1) := by decide +kernel
theorem dX11_plan_71 : decode cX11_plan 71 = .ok (.aaload, 1) := by decide +kernel
theorem dX11_plan_72 : decode cX11_plan 72 = .ok (.aload_n 0, 1) := by decide +kernel
theorem dX11_plan_73 : decode cX11_plan 73 = .ok (.getfield 50, 3) := by decide +kernel
theorem dX11_plan_76 : decode cX11_plan 76 = .ok (.getfield 141, 3) := by decide +kernel
theorem dX11_plan_79 : decode cX11_plan 79 = .ok (.invokevirtual 145, 3) := by decide +kernel
theorem dX11_plan_82 : decode cX11_plan 82 = .ok (.aload_n 0, 1) := by decide +kernel
theorem dX11_plan_83 : decode cX11_plan 83 = .ok (.getfield 43, 3) := by decide +kernel
theorem dX11_plan_86 : decode cX11_plan 86 = .ok (.iload_n 1, 1) := by decide +kernel
theorem dX11_plan_87 : decode cX11_plan 87 = .ok (.aaload, 1) := by decide +kernel
theorem dX11_plan_88 : decode cX11_plan 88 = .ok (.getfield 149, 3) := by decide +kernel
theorem dX11_plan_91 : decode cX11_plan 91 = .ok (.ireturn, 1) := by decide +kernel
theorem w_X11_plan {sh : gS} {Q : Option gV → gS → gM → Prop} {a1 a2 : Int} {M : gM} (hOK : gOK sh M) (h : (∃ v1 : Int, gC (gr 0 0) yX11_isPlan cX11_isPlan 1 (some (.boolean)) [(0, a1)] sh M (gPp sh M (0, v1)) ∧
    (if v1 = 0 then
      (Q (some (0, -1)) sh M)
    else
      (if a2 < 1 then
        (Q (some (0, -1)) sh M)
      else
        (if (240 : Int) < a2 then
          (Q (some (0, -1)) sh M)
        else
          (if (M 1 1) < a2 then
            (Q (some (0, -1)) sh M)
          else
            (∃ P48 : Option gV → gM → Prop, gC (gr 9 195) yX6_read cX6_read 6 (some (.int)) [(4, 410), (4, 1), (0, a2), (0, (M 4 0))] sh M (gPm sh P48) ∧ ∀ (r48 : Option gV) (M48 : gM), P48 r48 M48 → ∃ v48 : Int, r48 = some (0, v48) ∧ gOK sh M48 ∧
              (if v48 = 0 then
                ((0 ≤ a1 ∧ a1 < 4) ∧
                  ((gsh sh (519 + 48 * a1) = some (0, 6) ∧ (519 + 48 * a1) < 758) ∧
                    (∃ P79 : Option gV → gM → Prop, gC (gr 2 90) yX5_copy cX5_copy 2 none [(4, (519 + 48 * a1)), (4, 411)] sh (gU M48 1 1 0) (gPm sh P79) ∧ ∀ (r79 : Option gV) (M79 : gM), P79 r79 M79 → r79 = none ∧ gOK sh M79 ∧
                      (Q (some (0, (M79 (519 + 48 * a1) 1))) sh M79))))
              else
                (Q (some (0, v48)) sh (gU M48 1 1 0)))))))))) : gC (gr 10 220) yX11_plan cX11_plan 4 (some (.int)) [(4, 0), (0, a1), (0, a2)] sh M Q := by
  refine gC_ofA (lv := [_, _, _, _]) (by decide +kernel) (Nat.le_of_ble_eq_true rfl) rfl (fun hMw hav => ?_)
  refine g_iload_n (q0 := 1) (j := 1) rfl dX11_plan_0 rfl ?_
  obtain ⟨v1, e1, h⟩ := h
  refine g_callSp (as := [_]) (rest := []) mt_X11_isPlan ms_X11_isPlan ml_X11_132 dX11_plan_1 (q0 := 4) rfl rfl e1 rfl ⟨by decide, by decide⟩ (Nat.le_of_ble_eq_true rfl) ⟨Nat.zero_le _, Nat.zero_le _⟩ (fun _ => ?_)
  refine g_if_eq (q0 := 7) (tgt := 30) rfl dX11_plan_4 (by decide) (fun h4 => ?_) (fun h4 => ?_)
  · replace h := wI_pos h4 h
    refine g_iconst (q0 := 31) rfl dX11_plan_30 (k := ?_)
    exact g_ireturn dX11_plan_31 rfl ⟨Nat.zero_le _, Nat.zero_le _⟩ h
  · replace h := wI_neg h4 h
    refine g_iload_n (q0 := 8) (j := 2) rfl dX11_plan_7 rfl ?_
    refine g_iconst (q0 := 9) rfl dX11_plan_8 (k := ?_)
    refine g_icmp_lt (q0 := 12) (tgt := 30) rfl dX11_plan_9 (by decide) (fun h9 => ?_) (fun h9 => ?_)
    · replace h := wI_pos h9 h
      refine g_iconst (q0 := 31) rfl dX11_plan_30 (k := ?_)
      exact g_ireturn dX11_plan_31 rfl ⟨Nat.zero_le _, Nat.zero_le _⟩ h
    · replace h := wI_neg (Int.not_lt.mpr h9) h
      refine g_iload_n (q0 := 13) (j := 2) rfl dX11_plan_12 rfl ?_
      refine g_sipush (q0 := 16) rfl dX11_plan_13 (k := ?_)
      refine g_icmp_gt (q0 := 19) (tgt := 30) rfl dX11_plan_16 (by decide) (fun h16 => ?_) (fun h16 => ?_)
      · replace h := wI_pos h16 h
        refine g_iconst (q0 := 31) rfl dX11_plan_30 (k := ?_)
        exact g_ireturn dX11_plan_31 rfl ⟨Nat.zero_le _, Nat.zero_le _⟩ h
      · replace h := wI_neg (Int.not_lt.mpr h16) h
        refine g_iload_n (q0 := 20) (j := 2) rfl dX11_plan_19 rfl ?_
        refine g_aload_n (q0 := 21) (j := 0) rfl dX11_plan_20 rfl ?_
        refine g_getp (q0 := 24) (b := 1) rfl ff_X11_10 dX11_plan_21 rfl hOK (by decide) (sh_0 hOK) rfl (by decide) ?_
        refine g_getf (q0 := 27) (t := 0) (fi := 1) rfl rfl ff_X11_103 dX11_plan_24 rfl (sh_1 hOK) ?_
        refine g_icmp_le (q0 := 30) (tgt := 32) rfl dX11_plan_27 (by decide) (fun h27 => ?_) (fun h27 => ?_)
        · replace h := wI_neg (Int.not_lt.mpr h27) h
          refine g_aload_n (q0 := 33) (j := 0) rfl dX11_plan_32 rfl ?_
          refine g_getp (q0 := 36) (b := 410) rfl ff_X11_50 dX11_plan_33 rfl hOK (by decide) (sh_0 hOK) rfl (by decide) ?_
          refine g_aload_n (q0 := 37) (j := 0) rfl dX11_plan_36 rfl ?_
          refine g_getp (q0 := 40) (b := 1) rfl ff_X11_10 dX11_plan_37 rfl hOK (by decide) (sh_0 hOK) rfl (by decide) ?_
          refine g_iload_n (q0 := 41) (j := 2) rfl dX11_plan_40 rfl ?_
          refine g_aload_n (q0 := 42) (j := 0) rfl dX11_plan_41 rfl ?_
          refine g_getp (q0 := 45) (b := 4) rfl ff_X11_27 dX11_plan_42 rfl hOK (by decide) (sh_0 hOK) rfl (by decide) ?_
          refine g_getf (q0 := 48) (t := 0) (fi := 0) rfl rfl ff_X11_135 dX11_plan_45 rfl (sh_4 hOK) ?_
          obtain ⟨P48, e48, h⟩ := h
          refine g_callVm (as := [_, _, _]) (rest := []) mt_X6_read mi_X6_read se_X6_read ml_X11_138 dX11_plan_48 (q0 := 51) rfl rfl (sh_410 hOK) rfl rfl e48 rfl ⟨by decide, by decide⟩ (Nat.le_of_ble_eq_true rfl) ⟨Nat.zero_le _, Nat.zero_le _⟩ (fun r48 M48 hP48 hw48 hMw48 => ?_)
          obtain ⟨v48, hr48, hOK1, h⟩ := h r48 M48 hP48
          subst hr48
          refine g_istore_n (q0 := 52) (j := 3) (lv2 := [_, _, _, _]) rfl dX11_plan_51 (by decide) rfl rfl ?_
          refine g_aload_n (q0 := 53) (j := 0) rfl dX11_plan_52 rfl ?_
          refine g_getp (q0 := 56) (b := 1) rfl ff_X11_10 dX11_plan_53 rfl hOK1 (by decide) (sh_0 hOK1) rfl (by decide) ?_
          refine g_iconst (q0 := 57) rfl dX11_plan_56 (k := ?_)
          refine g_put (q0 := 60) (t := 0) (fi := 1) rfl rfl ff_X11_103 dX11_plan_57 rfl (sh_1 hOK1) rfl (fun _ => ⟨rfl, rfl⟩) ?_
          have hOK2 : gOK sh (gU M48 1 1 0) := gOK_o hOK1 (sh_1 hOK1) (f := 1) rfl rfl
          refine g_iload_n (q0 := 61) (j := 3) rfl dX11_plan_60 rfl ?_
          refine g_if_eq (q0 := 64) (tgt := 66) rfl dX11_plan_61 (by decide) (fun h61 => ?_) (fun h61 => ?_)
          · replace h := wI_pos h61 h
            refine g_aload_n (q0 := 67) (j := 0) rfl dX11_plan_66 rfl ?_
            refine g_getp (q0 := 70) (b := 409) rfl ff_X11_43 dX11_plan_67 rfl hOK2 (by decide) (sh_0 hOK2) rfl (by decide) ?_
            refine g_iload_n (q0 := 71) (j := 1) rfl dX11_plan_70 rfl ?_
            obtain ⟨g3, h⟩ := h
            refine g_aald (q0 := 72) (q := 2) rfl dX11_plan_71 (sh_409 hOK2) rfl g3.1 g3.2 ?_
            rw [(hOK2.2.2.2 _ g3.1 g3.2).2.2.1]
            refine g_aload_n (q0 := 73) (j := 0) rfl dX11_plan_72 rfl ?_
            refine g_getp (q0 := 76) (b := 410) rfl ff_X11_50 dX11_plan_73 rfl hOK2 (by decide) (sh_0 hOK2) rfl (by decide) ?_
            refine g_getp (q0 := 79) (b := 411) rfl ff_X11_141 dX11_plan_76 rfl hOK2 (by decide) (sh_410 hOK2) rfl (by decide) ?_
            obtain ⟨g4, h⟩ := h
            obtain ⟨P79, e79, h⟩ := h
            refine g_callVm (as := [_]) (rest := []) mt_X5_copy mi_X5_copy se_X5_copy ml_X11_145 dX11_plan_79 (q0 := 82) rfl rfl g4.1 rfl rfl e79 rfl ⟨by decide, by decide⟩ (Nat.le_of_ble_eq_true rfl) ⟨Nat.zero_le _, Nat.zero_le _⟩ (fun r79 M79 hP79 hw79 hMw79 => ?_)
            obtain ⟨hr79, hOK5, h⟩ := h r79 M79 hP79
            subst hr79
            refine g_aload_n (q0 := 83) (j := 0) rfl dX11_plan_82 rfl ?_
            refine g_getp (q0 := 86) (b := 409) rfl ff_X11_43 dX11_plan_83 rfl hOK5 (by decide) (sh_0 hOK5) rfl (by decide) ?_
            refine g_iload_n (q0 := 87) (j := 1) rfl dX11_plan_86 rfl ?_
            refine g_aald (q0 := 88) (q := 2) rfl dX11_plan_87 (sh_409 hOK5) rfl g3.1 g3.2 ?_
            rw [(hOK5.2.2.2 _ g3.1 g3.2).2.2.1]
            refine g_getf (q0 := 91) (t := 0) (fi := 1) rfl rfl ff_X11_149 dX11_plan_88 rfl g4.1 ?_
            exact g_ireturn dX11_plan_91 rfl ⟨Nat.zero_le _, Nat.zero_le _⟩ h
          · replace h := wI_neg h61 h
            refine g_iload_n (q0 := 65) (j := 3) rfl dX11_plan_64 rfl ?_
            exact g_ireturn dX11_plan_65 rfl ⟨Nat.zero_le _, Nat.zero_le _⟩ h
        · replace h := wI_pos h27 h
          refine g_iconst (q0 := 31) rfl dX11_plan_30 (k := ?_)
          exact g_ireturn dX11_plan_31 rfl ⟨Nat.zero_le _, Nat.zero_le _⟩ h
-- ==== X11_check
theorem dX11_check_0 : decode cX11_check 0 = .ok (.iload_n 1, 1) := by decide +kernel
theorem dX11_check_1 : decode cX11_check 1 = .ok (.ifCond .lt 20, 3) := by decide +kernel
theorem dX11_check_4 : decode cX11_check 4 = .ok (.iload_n 1, 1) := by decide +kernel
theorem dX11_check_5 : decode cX11_check 5 = .ok (.bipush 120, 2) := by decide +kernel
theorem dX11_check_7 : decode cX11_check 7 = .ok (.if_icmp .gt 14, 3) := by decide +kernel
theorem dX11_check_10 : decode cX11_check 10 = .ok (.iload_n 1, 1) := by decide +kernel
theorem dX11_check_11 : decode cX11_check 11 = .ok (.aload_n 0, 1) := by decide +kernel
theorem dX11_check_12 : decode cX11_check 12 = .ok (.getfield 10, 3) := by decide +kernel
theorem dX11_check_15 : decode cX11_check 15 = .ok (.getfield 103, 3) := by decide +kernel
theorem dX11_check_18 : decode cX11_check 18 = .ok (.if_icmp .le 6, 3) := by decide +kernel
theorem dX11_check_21 : decode cX11_check 21 = .ok (.bipush (-2), 2) := by decide +kernel
theorem dX11_check_23 : decode cX11_check 23 = .ok (.ireturn, 1) := by decide +kernel
theorem dX11_check_24 : decode cX11_check 24 = .ok (.aload_n 0, 1) := by decide +kernel
theorem dX11_check_25 : decode cX11_check 25 = .ok (.getfield 10, 3) := by decide +kernel
theorem dX11_check_28 : decode cX11_check 28 = .ok (.iconst 0, 1) := by decide +kernel
theorem dX11_check_29 : decode cX11_check 29 = .ok (.putfield 103, 3) := by decide +kernel
theorem dX11_check_32 : decode cX11_check 32 = .ok (.iconst 0, 1) := by decide +kernel
theorem dX11_check_33 : decode cX11_check 33 = .ok (.istore_n 2, 1) := by decide +kernel
theorem dX11_check_34 : decode cX11_check 34 = .ok (.iload_n 2, 1) := by decide +kernel
theorem dX11_check_35 : decode cX11_check 35 = .ok (.iload_n 1, 1) := by decide +kernel
theorem dX11_check_36 : decode cX11_check 36 = .ok (.if_icmp .ge 52, 3) := by decide +kernel
theorem dX11_check_39 : decode cX11_check 39 = .ok (.aload_n 0, 1) := by decide +kernel
theorem dX11_check_40 : decode cX11_check 40 = .ok (.getfield 27, 3) := by decide +kernel
theorem dX11_check_43 : decode cX11_check 43 = .ok (.iload_n 2, 1) := by decide +kernel
theorem dX11_check_44 : decode cX11_check 44 = .ok (.invokevirtual 152, 3) := by decide +kernel
theorem dX11_check_47 : decode cX11_check 47 = .ok (.ifCond .eq 17, 3) := by decide +kernel
theorem dX11_check_50 : decode cX11_check 50 = .ok (.aload_n 0, 1) := by decide +kernel
theorem dX11_check_51 : decode cX11_check 51 = .ok (.getfield 27, 3) := by decide +kernel
theorem dX11_check_54 : decode cX11_check 54 = .ok (.iload_n 2, 1) := by decide +kernel
theorem dX11_check_55 : decode cX11_check 55 = .ok (.invokevirtual 155, 3) := by decide +kernel
theorem dX11_check_58 : decode cX11_check 58 = .ok (.getfield 159, 3) := by decide +kernel
theorem dX11_check_61 : decode cX11_check 61 = .ok (.goto 6, 3) := by decide +kernel
theorem dX11_check_64 : decode cX11_check 64 = .ok (.sipush 255, 3) := by decide +kernel
theorem dX11_check_67 : decode cX11_check 67 = .ok (.istore_n 3, 1) := by decide +kernel
theorem dX11_check_68 : decode cX11_check 68 = .ok (.aload_n 0, 1) := by decide +kernel
theorem dX11_check_69 : decode cX11_check 69 = .ok (.getfield 10, 3) := by decide +kernel
theorem dX11_check_72 : decode cX11_check 72 = .ok (.iload_n 2, 1) := by decide +kernel
theorem dX11_check_73 : decode cX11_check 73 = .ok (.invokevirtual 162, 3) := by decide +kernel
theorem dX11_check_76 : decode cX11_check 76 = .ok (.iload_n 3, 1) := by decide +kernel
theorem dX11_check_77 : decode cX11_check 77 = .ok (.if_icmp .eq 5, 3) := by decide +kernel
theorem dX11_check_80 : decode cX11_check 80 = .ok (.iload_n 2, 1) := by decide +kernel
theorem dX11_check_81 : decode cX11_check 81 = .ok (.ireturn, 1) := by decide +kernel
theorem dX11_check_82 : decode cX11_check 82 = .ok (.iinc 2 1, 3) := by decide +kernel
theorem dX11_check_85 : decode cX11_check 85 = .ok (.goto (-51), 3) := by decide +kernel
theorem dX11_check_88 : decode cX11_check 88 = .ok (.iconst (-1), 1) := by decide +kernel
theorem dX11_check_89 : decode cX11_check 89 = .ok (.ireturn, 1) := by decide +kernel
def P_X11_check_34 (sh : gS) (Q : Option gV → gS → gM → Prop) (x1 x2 : Int) (M : gM) : Prop := gA (gr 1 21) yX11_check cX11_check 4 (some (.int)) Q (0, 0) 34 [(4, 0), (0, x1), (0, x2), (9, 0)] [] sh M
theorem w_X11_check_34 {sh : gS} {Q : Option gV → gS → gM → Prop} {x1 x2 : Int} {M : gM} (hOK : gOK sh M) (h : (if x2 < x1 then
    (∃ v44 : Int, gC (gr 0 0) yX1_has cX1_has 2 (some (.boolean)) [(4, 4), (0, x2)] sh M (gPp sh M (0, v44)) ∧
      (if v44 = 0 then
        (∃ v73 : Int, gC (gr 0 0) yX9_at cX9_at 2 (some (.int)) [(4, 1), (0, x2)] sh M (gPp sh M (0, v73)) ∧
          (if v73 = 255 then
            (P_X11_check_34 sh Q x1 (gw32 (x2 + 1)) M)
          else
            (Q (some (0, x2)) sh M)))
      else
        (∃ v55 : Int, gC (gr 0 0) yX1_tree cX1_tree 2 (some (.object "CarriedHistory$Tree")) [(4, 4), (0, x2)] sh M (gPp sh M (4, v55)) ∧
          ((gsh sh v55 = some (0, 11) ∧ v55 < 758) ∧
            (∃ v73 : Int, gC (gr 0 0) yX9_at cX9_at 2 (some (.int)) [(4, 1), (0, x2)] sh M (gPp sh M (0, v73)) ∧
              (if v73 = (M v55 2) then
                (P_X11_check_34 sh Q x1 (gw32 (x2 + 1)) M)
              else
                (Q (some (0, x2)) sh M)))))))
  else
    (Q (some (0, -1)) sh M))) : P_X11_check_34 sh Q x1 x2 M := by
  unfold P_X11_check_34
  refine g_iload_n (q0 := 35) (j := 2) rfl dX11_check_34 rfl ?_
  refine g_iload_n (q0 := 36) (j := 1) rfl dX11_check_35 rfl ?_
  refine g_icmp_ge (q0 := 39) (tgt := 88) rfl dX11_check_36 (by decide) (fun h36 => ?_) (fun h36 => ?_)
  · replace h := wI_neg (Int.not_lt.mpr h36) h
    refine g_iconst (q0 := 89) rfl dX11_check_88 (k := ?_)
    exact g_ireturn dX11_check_89 rfl ⟨Nat.zero_le _, Nat.zero_le _⟩ h
  · replace h := wI_pos h36 h
    refine g_aload_n (q0 := 40) (j := 0) rfl dX11_check_39 rfl ?_
    refine g_getp (q0 := 43) (b := 4) rfl ff_X11_27 dX11_check_40 rfl hOK (by decide) (sh_0 hOK) rfl (by decide) ?_
    refine g_iload_n (q0 := 44) (j := 2) rfl dX11_check_43 rfl ?_
    obtain ⟨v44, e44, h⟩ := h
    refine g_callVp (as := [_]) (rest := []) mt_X1_has mi_X1_has se_X1_has ml_X11_152 dX11_check_44 (q0 := 47) rfl rfl (sh_4 hOK) rfl rfl e44 rfl ⟨by decide, by decide⟩ (Nat.le_of_ble_eq_true rfl) ⟨Nat.zero_le _, Nat.zero_le _⟩ (fun _ => ?_)
    refine g_if_eq (q0 := 50) (tgt := 64) rfl dX11_check_47 (by decide) (fun h47 => ?_) (fun h47 => ?_)
    · replace h := wI_pos h47 h
      refine g_sipush (q0 := 67) rfl dX11_check_64 (k := ?_)
      refine g_istore_n (q0 := 68) (j := 3) (lv2 := [_, _, _, _]) rfl dX11_check_67 (by decide) rfl rfl ?_
      refine g_aload_n (q0 := 69) (j := 0) rfl dX11_check_68 rfl ?_
      refine g_getp (q0 := 72) (b := 1) rfl ff_X11_10 dX11_check_69 rfl hOK (by decide) (sh_0 hOK) rfl (by decide) ?_
      refine g_iload_n (q0 := 73) (j := 2) rfl dX11_check_72 rfl ?_
      obtain ⟨v73, e73, h⟩ := h
      refine g_callVp (as := [_]) (rest := []) mt_X9_at mi_X9_at se_X9_at ml_X11_162 dX11_check_73 (q0 := 76) rfl rfl (sh_1 hOK) rfl rfl e73 rfl ⟨by decide, by decide⟩ (Nat.le_of_ble_eq_true rfl) ⟨Nat.zero_le _, Nat.zero_le _⟩ (fun _ => ?_)
      refine g_iload_n (q0 := 77) (j := 3) rfl dX11_check_76 rfl ?_
      refine g_icmp_eq (q0 := 80) (tgt := 82) rfl dX11_check_77 (by decide) (fun h77 => ?_) (fun h77 => ?_)
      · replace h := wI_pos h77 h
        refine g_iincw (q0 := 85) (lv2 := [_, _, _, _]) rfl dX11_check_82 rfl (by decide) rfl rfl ?_
        refine g_goto (tgt := 34) dX11_check_85 (by decide) ?_
        refine gA_jk (lv1 := [_, _, _, (9, 0)]) ⟨.inl rfl, .inl rfl, .inl rfl, .inr rfl, trivial⟩ ?_
        exact h
      · replace h := wI_neg h77 h
        refine g_iload_n (q0 := 81) (j := 2) rfl dX11_check_80 rfl ?_
        exact g_ireturn dX11_check_81 rfl ⟨Nat.zero_le _, Nat.zero_le _⟩ h
    · replace h := wI_neg h47 h
      refine g_aload_n (q0 := 51) (j := 0) rfl dX11_check_50 rfl ?_
      refine g_getp (q0 := 54) (b := 4) rfl ff_X11_27 dX11_check_51 rfl hOK (by decide) (sh_0 hOK) rfl (by decide) ?_
      refine g_iload_n (q0 := 55) (j := 2) rfl dX11_check_54 rfl ?_
      obtain ⟨v55, e55, h⟩ := h
      refine g_callVp (as := [_]) (rest := []) mt_X1_tree mi_X1_tree se_X1_tree ml_X11_155 dX11_check_55 (q0 := 58) rfl rfl (sh_4 hOK) rfl rfl e55 rfl ⟨by decide, by decide⟩ (Nat.le_of_ble_eq_true rfl) ⟨Nat.zero_le _, Nat.zero_le _⟩ (fun _ => ?_)
      obtain ⟨g1, h⟩ := h
      refine g_getf (q0 := 61) (t := 0) (fi := 2) rfl rfl ff_X11_159 dX11_check_58 rfl g1.1 ?_
      refine g_goto (tgt := 67) dX11_check_61 (by decide) ?_
      refine g_istore_n (q0 := 68) (j := 3) (lv2 := [_, _, _, _]) rfl dX11_check_67 (by decide) rfl rfl ?_
      refine g_aload_n (q0 := 69) (j := 0) rfl dX11_check_68 rfl ?_
      refine g_getp (q0 := 72) (b := 1) rfl ff_X11_10 dX11_check_69 rfl hOK (by decide) (sh_0 hOK) rfl (by decide) ?_
      refine g_iload_n (q0 := 73) (j := 2) rfl dX11_check_72 rfl ?_
      obtain ⟨v73, e73, h⟩ := h
      refine g_callVp (as := [_]) (rest := []) mt_X9_at mi_X9_at se_X9_at ml_X11_162 dX11_check_73 (q0 := 76) rfl rfl (sh_1 hOK) rfl rfl e73 rfl ⟨by decide, by decide⟩ (Nat.le_of_ble_eq_true rfl) ⟨Nat.zero_le _, Nat.zero_le _⟩ (fun _ => ?_)
      refine g_iload_n (q0 := 77) (j := 3) rfl dX11_check_76 rfl ?_
      refine g_icmp_eq (q0 := 80) (tgt := 82) rfl dX11_check_77 (by decide) (fun h77 => ?_) (fun h77 => ?_)
      · replace h := wI_pos h77 h
        refine g_iincw (q0 := 85) (lv2 := [_, _, _, _]) rfl dX11_check_82 rfl (by decide) rfl rfl ?_
        refine g_goto (tgt := 34) dX11_check_85 (by decide) ?_
        refine gA_jk (lv1 := [_, _, _, (9, 0)]) ⟨.inl rfl, .inl rfl, .inl rfl, .inr rfl, trivial⟩ ?_
        exact h
      · replace h := wI_neg h77 h
        refine g_iload_n (q0 := 81) (j := 2) rfl dX11_check_80 rfl ?_
        exact g_ireturn dX11_check_81 rfl ⟨Nat.zero_le _, Nat.zero_le _⟩ h
theorem w_X11_check {sh : gS} {Q : Option gV → gS → gM → Prop} {a1 : Int} {M : gM} (hOK : gOK sh M) (h : (if a1 < 0 then
    (Q (some (0, -2)) sh M)
  else
    (if (120 : Int) < a1 then
      (Q (some (0, -2)) sh M)
    else
      (if (M 1 1) < a1 then
        (Q (some (0, -2)) sh M)
      else
        (P_X11_check_34 sh Q a1 0 (gU M 1 1 0)))))) : gC (gr 1 21) yX11_check cX11_check 4 (some (.int)) [(4, 0), (0, a1)] sh M Q := by
  refine gC_ofA (lv := [_, _, _, _]) (by decide +kernel) (Nat.le_of_ble_eq_true rfl) rfl (fun hMw hav => ?_)
  refine g_iload_n (q0 := 1) (j := 1) rfl dX11_check_0 rfl ?_
  refine g_if_lt (q0 := 4) (tgt := 21) rfl dX11_check_1 (by decide) (fun h1 => ?_) (fun h1 => ?_)
  · replace h := wI_pos h1 h
    refine g_bipush (q0 := 23) rfl dX11_check_21 (k := ?_)
    exact g_ireturn dX11_check_23 rfl ⟨Nat.zero_le _, Nat.zero_le _⟩ h
  · replace h := wI_neg (Int.not_lt.mpr h1) h
    refine g_iload_n (q0 := 5) (j := 1) rfl dX11_check_4 rfl ?_
    refine g_bipush (q0 := 7) rfl dX11_check_5 (k := ?_)
    refine g_icmp_gt (q0 := 10) (tgt := 21) rfl dX11_check_7 (by decide) (fun h7 => ?_) (fun h7 => ?_)
    · replace h := wI_pos h7 h
      refine g_bipush (q0 := 23) rfl dX11_check_21 (k := ?_)
      exact g_ireturn dX11_check_23 rfl ⟨Nat.zero_le _, Nat.zero_le _⟩ h
    · replace h := wI_neg (Int.not_lt.mpr h7) h
      refine g_iload_n (q0 := 11) (j := 1) rfl dX11_check_10 rfl ?_
      refine g_aload_n (q0 := 12) (j := 0) rfl dX11_check_11 rfl ?_
      refine g_getp (q0 := 15) (b := 1) rfl ff_X11_10 dX11_check_12 rfl hOK (by decide) (sh_0 hOK) rfl (by decide) ?_
      refine g_getf (q0 := 18) (t := 0) (fi := 1) rfl rfl ff_X11_103 dX11_check_15 rfl (sh_1 hOK) ?_
      refine g_icmp_le (q0 := 21) (tgt := 24) rfl dX11_check_18 (by decide) (fun h18 => ?_) (fun h18 => ?_)
      · replace h := wI_neg (Int.not_lt.mpr h18) h
        refine g_aload_n (q0 := 25) (j := 0) rfl dX11_check_24 rfl ?_
        refine g_getp (q0 := 28) (b := 1) rfl ff_X11_10 dX11_check_25 rfl hOK (by decide) (sh_0 hOK) rfl (by decide) ?_
        refine g_iconst (q0 := 29) rfl dX11_check_28 (k := ?_)
        refine g_put (q0 := 32) (t := 0) (fi := 1) rfl rfl ff_X11_103 dX11_check_29 rfl (sh_1 hOK) rfl (fun _ => ⟨rfl, rfl⟩) ?_
        have hOK2 : gOK sh (gU M 1 1 0) := gOK_o hOK (sh_1 hOK) (f := 1) rfl rfl
        refine g_iconst (q0 := 33) rfl dX11_check_32 (k := ?_)
        refine g_istore_n (q0 := 34) (j := 2) (lv2 := [_, _, _, _]) rfl dX11_check_33 (by decide) rfl rfl ?_
        exact h
      · replace h := wI_pos h18 h
        refine g_bipush (q0 := 23) rfl dX11_check_21 (k := ?_)
        exact g_ireturn dX11_check_23 rfl ⟨Nat.zero_le _, Nat.zero_le _⟩ h
-- ==== X11_ref
theorem dX11_ref_0 : decode cX11_ref 0 = .ok (.iload_n 1, 1) := by decide +kernel
theorem dX11_ref_1 : decode cX11_ref 1 = .ok (.invokestatic 166, 3) := by decide +kernel
theorem dX11_ref_4 : decode cX11_ref 4 = .ok (.ifCond .eq 37, 3) := by decide +kernel
theorem dX11_ref_7 : decode cX11_ref 7 = .ok (.iload_n 2, 1) := by decide +kernel
theorem dX11_ref_8 : decode cX11_ref 8 = .ok (.ifCond .lt 33, 3) := by decide +kernel
theorem dX11_ref_11 : decode cX11_ref 11 = .ok (.iload_n 2, 1) := by decide +kernel
theorem dX11_ref_12 : decode cX11_ref 12 = .ok (.iconst 1, 1) := by decide +kernel
theorem dX11_ref_13 : decode cX11_ref 13 = .ok (.if_icmp .gt 28, 3) := by decide +kernel
theorem dX11_ref_16 : decode cX11_ref 16 = .ok (.iload_n 3, 1) := by decide +kernel
theorem dX11_ref_17 : decode cX11_ref 17 = .ok (.invokestatic 169, 3) := by decide +kernel
theorem dX11_ref_20 : decode cX11_ref 20 = .ok (.ifCond .eq 21, 3) := by decide +kernel
theorem dX11_ref_23 : decode cX11_ref 23 = .ok (.iload 4, 2) := by decide +kernel
theorem dX11_ref_25 : decode cX11_ref 25 = .ok (.iconst (-1), 1) := by decide +kernel
theorem dX11_ref_26 : decode cX11_ref 26 = .ok (.if_icmp .lt 15, 3) := by decide +kernel
theorem dX11_ref_29 : decode cX11_ref 29 = .ok (.iload 4, 2) := by decide +kernel
theorem dX11_ref_31 : decode cX11_ref 31 = .ok (.aload_n 0, 1) := by decide +kernel
theorem dX11_ref_32 : decode cX11_ref 32 = .ok (.getfield 27, 3) := by decide +kernel
theorem dX11_ref_35 : decode cX11_ref 35 = .ok (.getfield 135, 3) := by decide +kernel
theorem dX11_ref_38 : decode cX11_ref 38 = .ok (.if_icmp .lt 5, 3) := by decide +kernel
theorem dX11_ref_41 : decode cX11_ref 41 = .ok (.iconst (-1), 1) := by decide +kernel
theorem dX11_ref_42 : decode cX11_ref 42 = .ok (.ireturn, 1) := by decide +kernel
theorem dX11_ref_43 : decode cX11_ref 43 = .ok (.aload_n 0, 1) := by decide +kernel
theorem dX11_ref_44 : decode cX11_ref 44 = .ok (.getfield 37, 3) := by decide +kernel
theorem dX11_ref_47 : decode cX11_ref 47 = .ok (.iload_n 1, 1) := by decide +kernel
theorem dX11_ref_48 : decode cX11_ref 48 = .ok (.aaload, 1) := by decide +kernel
theorem dX11_ref_49 : decode cX11_ref 49 = .ok (.astore 5, 2) := by decide +kernel
theorem dX11_ref_51 : decode cX11_ref 51 = .ok (.aload 5, 2) := by decide +kernel
theorem dX11_ref_53 : decode cX11_ref 53 = .ok (.iload_n 2, 1) := by decide +kernel
theorem dX11_ref_54 : decode cX11_ref 54 = .ok (.iload_n 3, 1) := by decide +kernel
theorem dX11_ref_55 : decode cX11_ref 55 = .ok (.invokevirtual 172, 3) := by decide +kernel
theorem dX11_ref_58 : decode cX11_ref 58 = .ok (.ifCond .lt 7, 3) := by decide +kernel
theorem dX11_ref_61 : decode cX11_ref 61 = .ok (.iconst 1, 1) := by decide +kernel
theorem dX11_ref_62 : decode cX11_ref 62 = .ok (.goto 4, 3) := by decide +kernel
theorem dX11_ref_65 : decode cX11_ref 65 = .ok (.iconst 0, 1) := by decide +kernel
theorem dX11_ref_66 : decode cX11_ref 66 = .ok (.istore 6, 2) := by decide +kernel
theorem dX11_ref_68 : decode cX11_ref 68 = .ok (.iload 4, 2) := by decide +kernel
theorem dX11_ref_70 : decode cX11_ref 70 = .ok (.ifCond .ge 24, 3) := by decide +kernel
theorem dX11_ref_73 : decode cX11_ref 73 = .ok (.iload 6, 2) := by decide +kernel
theorem dX11_ref_75 : decode cX11_ref 75 = .ok (.ifCond .ne 6, 3) := by decide +kernel
theorem dX11_ref_78 : decode cX11_ref 78 = .ok (.bipush (-4), 2) := by decide +kernel
theorem dX11_ref_80 : decode cX11_ref 80 = .ok (.ireturn, 1) := by decide +kernel
theorem dX11_ref_81 : decode cX11_ref 81 = .ok (.aload 5, 2) := by decide +kernel
theorem dX11_ref_83 : decode cX11_ref 83 = .ok (.iload_n 2, 1) := by decide +kernel
theorem dX11_ref_84 : decode cX11_ref 84 = .ok (.iload_n 3, 1) := by decide +kernel
theorem dX11_ref_85 : decode cX11_ref 85 = .ok (.invokevirtual 176, 3) := by decide +kernel
theorem dX11_ref_88 : decode cX11_ref 88 = .ok (.aload 5, 2) := by decide +kernel
theorem dX11_ref_90 : decode cX11_ref 90 = .ok (.getfield 180, 3) := by decide +kernel
theorem dX11_ref_93 : decode cX11_ref 93 = .ok (.ireturn, 1) := by decide +kernel
theorem dX11_ref_94 : decode cX11_ref 94 = .ok (.iload 6, 2) := by decide +kernel
theorem dX11_ref_96 : decode cX11_ref 96 = .ok (.ifCond .ne 16, 3) := by decide +kernel
theorem dX11_ref_99 : decode cX11_ref 99 = .ok (.aload 5, 2) := by decide +kernel
theorem dX11_ref_101 : decode cX11_ref 101 = .ok (.getfield 180, 3) := by decide +kernel
theorem dX11_ref_104 : decode cX11_ref 104 = .ok (.bipush 8, 2) := by decide +kernel
theorem dX11_ref_106 : decode cX11_ref 106 = .ok (.if_icmp .lt 6, 3) := by decide +kernel
theorem dX11_ref_109 : decode cX11_ref 109 = .ok (.bipush (-5), 2) := by decide +kernel
theorem dX11_ref_111 : decode cX11_ref 111 = .ok (.ireturn, 1) := by decide +kernel
theorem dX11_ref_112 : decode cX11_ref 112 = .ok (.aload 5, 2) := by decide +kernel
theorem dX11_ref_114 : decode cX11_ref 114 = .ok (.iload_n 2, 1) := by decide +kernel
theorem dX11_ref_115 : decode cX11_ref 115 = .ok (.iload_n 3, 1) := by decide +kernel
theorem dX11_ref_116 : decode cX11_ref 116 = .ok (.iload 4, 2) := by decide +kernel
theorem dX11_ref_118 : decode cX11_ref 118 = .ok (.iconst (-1), 1) := by decide +kernel
theorem dX11_ref_119 : decode cX11_ref 119 = .ok (.invokevirtual 181, 3) := by decide +kernel
theorem dX11_ref_122 : decode cX11_ref 122 = .ok (.aload 5, 2) := by decide +kernel
theorem dX11_ref_124 : decode cX11_ref 124 = .ok (.getfield 180, 3) := by decide +kernel
theorem dX11_ref_127 : decode cX11_ref 127 = .ok (.ireturn, 1) := by decide +kernel
def P_X11_ref_66 (sh : gS) (Q : Option gV → gS → gM → Prop) (x1 x2 x3 x4 x5 s0 : Int) (M : gM) : Prop := gA (gr 3 70) yX11_ref cX11_ref 7 (some (.int)) Q (0, 0) 66 [(4, 0), (0, x1), (0, x2), (0, x3), (0, x4), (4, x5), (9, 0)] [(0, s0)] sh M
theorem w_X11_ref_66 {sh : gS} {Q : Option gV → gS → gM → Prop} {x1 x2 x3 x4 x5 s0 : Int} {M : gM} (hOK : gOK sh M) (h : (if x4 < 0 then
    (if s0 = 0 then
      (Q (some (0, -4)) sh M)
    else
      ((gsh sh x5 = some (0, 8) ∧ x5 < 758) ∧
        (∃ P85 : Option gV → gM → Prop, gC (gr 1 23) yX7_remove cX7_remove 5 none [(4, x5), (0, x2), (0, x3)] sh M (gPm sh P85) ∧ ∀ (r85 : Option gV) (M85 : gM), P85 r85 M85 → r85 = none ∧ gOK sh M85 ∧
          (Q (some (0, (M85 x5 0))) sh M85))))
  else
    (if s0 = 0 then
      ((gsh sh x5 = some (0, 8) ∧ x5 < 758) ∧
        (if (M x5 0) < 8 then
          (∃ P119 : Option gV → gM → Prop, gC (gr 2 45) yX7_lay cX7_lay 6 none [(4, x5), (0, x2), (0, x3), (0, x4), (0, -1)] sh M (gPm sh P119) ∧ ∀ (r119 : Option gV) (M119 : gM), P119 r119 M119 → r119 = none ∧ gOK sh M119 ∧
            (Q (some (0, (M119 x5 0))) sh M119))
        else
          (Q (some (0, -5)) sh M)))
    else
      ((gsh sh x5 = some (0, 8) ∧ x5 < 758) ∧
        (∃ P119 : Option gV → gM → Prop, gC (gr 2 45) yX7_lay cX7_lay 6 none [(4, x5), (0, x2), (0, x3), (0, x4), (0, -1)] sh M (gPm sh P119) ∧ ∀ (r119 : Option gV) (M119 : gM), P119 r119 M119 → r119 = none ∧ gOK sh M119 ∧
          (Q (some (0, (M119 x5 0))) sh M119)))))) : P_X11_ref_66 sh Q x1 x2 x3 x4 x5 s0 M := by
  unfold P_X11_ref_66
  refine g_istore (q0 := 68) (j := 6) (lv2 := [_, _, _, _, _, _, _]) rfl dX11_ref_66 (by decide) rfl rfl ?_
  refine g_iload (q0 := 70) (j := 4) rfl dX11_ref_68 rfl ?_
  refine g_if_ge (q0 := 73) (tgt := 94) rfl dX11_ref_70 (by decide) (fun h70 => ?_) (fun h70 => ?_)
  · replace h := wI_neg (Int.not_lt.mpr h70) h
    refine g_iload (q0 := 96) (j := 6) rfl dX11_ref_94 rfl ?_
    refine g_if_ne (q0 := 99) (tgt := 112) rfl dX11_ref_96 (by decide) (fun h96 => ?_) (fun h96 => ?_)
    · replace h := wI_neg h96 h
      refine g_aload (q0 := 114) (j := 5) rfl dX11_ref_112 rfl ?_
      refine g_iload_n (q0 := 115) (j := 2) rfl dX11_ref_114 rfl ?_
      refine g_iload_n (q0 := 116) (j := 3) rfl dX11_ref_115 rfl ?_
      refine g_iload (q0 := 118) (j := 4) rfl dX11_ref_116 rfl ?_
      refine g_iconst (q0 := 119) rfl dX11_ref_118 (k := ?_)
      obtain ⟨g1, h⟩ := h
      obtain ⟨P119, e119, h⟩ := h
      refine g_callVm (as := [_, _, _, _]) (rest := []) mt_X7_lay mi_X7_lay se_X7_lay ml_X11_181 dX11_ref_119 (q0 := 122) rfl rfl g1.1 rfl rfl e119 rfl ⟨by decide, by decide⟩ (Nat.le_of_ble_eq_true rfl) ⟨Nat.zero_le _, Nat.zero_le _⟩ (fun r119 M119 hP119 hw119 hMw119 => ?_)
      obtain ⟨hr119, hOK2, h⟩ := h r119 M119 hP119
      subst hr119
      refine g_aload (q0 := 124) (j := 5) rfl dX11_ref_122 rfl ?_
      refine g_getf (q0 := 127) (t := 0) (fi := 0) rfl rfl ff_X11_180 dX11_ref_124 rfl g1.1 ?_
      exact g_ireturn dX11_ref_127 rfl ⟨Nat.zero_le _, Nat.zero_le _⟩ h
    · replace h := wI_pos h96 h
      refine g_aload (q0 := 101) (j := 5) rfl dX11_ref_99 rfl ?_
      obtain ⟨g3, h⟩ := h
      refine g_getf (q0 := 104) (t := 0) (fi := 0) rfl rfl ff_X11_180 dX11_ref_101 rfl g3.1 ?_
      refine g_bipush (q0 := 106) rfl dX11_ref_104 (k := ?_)
      refine g_icmp_lt (q0 := 109) (tgt := 112) rfl dX11_ref_106 (by decide) (fun h106 => ?_) (fun h106 => ?_)
      · replace h := wI_pos h106 h
        refine g_aload (q0 := 114) (j := 5) rfl dX11_ref_112 rfl ?_
        refine g_iload_n (q0 := 115) (j := 2) rfl dX11_ref_114 rfl ?_
        refine g_iload_n (q0 := 116) (j := 3) rfl dX11_ref_115 rfl ?_
        refine g_iload (q0 := 118) (j := 4) rfl dX11_ref_116 rfl ?_
        refine g_iconst (q0 := 119) rfl dX11_ref_118 (k := ?_)
        obtain ⟨P119, e119, h⟩ := h
        refine g_callVm (as := [_, _, _, _]) (rest := []) mt_X7_lay mi_X7_lay se_X7_lay ml_X11_181 dX11_ref_119 (q0 := 122) rfl rfl g3.1 rfl rfl e119 rfl ⟨by decide, by decide⟩ (Nat.le_of_ble_eq_true rfl) ⟨Nat.zero_le _, Nat.zero_le _⟩ (fun r119 M119 hP119 hw119 hMw119 => ?_)
        obtain ⟨hr119, hOK4, h⟩ := h r119 M119 hP119
        subst hr119
        refine g_aload (q0 := 124) (j := 5) rfl dX11_ref_122 rfl ?_
        refine g_getf (q0 := 127) (t := 0) (fi := 0) rfl rfl ff_X11_180 dX11_ref_124 rfl g3.1 ?_
        exact g_ireturn dX11_ref_127 rfl ⟨Nat.zero_le _, Nat.zero_le _⟩ h
      · replace h := wI_neg (Int.not_lt.mpr h106) h
        refine g_bipush (q0 := 111) rfl dX11_ref_109 (k := ?_)
        exact g_ireturn dX11_ref_111 rfl ⟨Nat.zero_le _, Nat.zero_le _⟩ h
  · replace h := wI_pos h70 h
    refine g_iload (q0 := 75) (j := 6) rfl dX11_ref_73 rfl ?_
    refine g_if_ne (q0 := 78) (tgt := 81) rfl dX11_ref_75 (by decide) (fun h75 => ?_) (fun h75 => ?_)
    · replace h := wI_neg h75 h
      refine g_aload (q0 := 83) (j := 5) rfl dX11_ref_81 rfl ?_
      refine g_iload_n (q0 := 84) (j := 2) rfl dX11_ref_83 rfl ?_
      refine g_iload_n (q0 := 85) (j := 3) rfl dX11_ref_84 rfl ?_
      obtain ⟨g5, h⟩ := h
      obtain ⟨P85, e85, h⟩ := h
      refine g_callVm (as := [_, _]) (rest := []) mt_X7_remove mi_X7_remove se_X7_remove ml_X11_176 dX11_ref_85 (q0 := 88) rfl rfl g5.1 rfl rfl e85 rfl ⟨by decide, by decide⟩ (Nat.le_of_ble_eq_true rfl) ⟨Nat.zero_le _, Nat.zero_le _⟩ (fun r85 M85 hP85 hw85 hMw85 => ?_)
      obtain ⟨hr85, hOK6, h⟩ := h r85 M85 hP85
      subst hr85
      refine g_aload (q0 := 90) (j := 5) rfl dX11_ref_88 rfl ?_
      refine g_getf (q0 := 93) (t := 0) (fi := 0) rfl rfl ff_X11_180 dX11_ref_90 rfl g5.1 ?_
      exact g_ireturn dX11_ref_93 rfl ⟨Nat.zero_le _, Nat.zero_le _⟩ h
    · replace h := wI_pos h75 h
      refine g_bipush (q0 := 80) rfl dX11_ref_78 (k := ?_)
      exact g_ireturn dX11_ref_80 rfl ⟨Nat.zero_le _, Nat.zero_le _⟩ h
theorem w_X11_ref {sh : gS} {Q : Option gV → gS → gM → Prop} {a1 a2 a3 a4 : Int} {M : gM} (hOK : gOK sh M) (h : (∃ v1 : Int, gC (gr 0 0) yX11_isHistory cX11_isHistory 1 (some (.boolean)) [(0, a1)] sh M (gPp sh M (0, v1)) ∧
    (if v1 = 0 then
      (Q (some (0, -1)) sh M)
    else
      (if a2 < 0 then
        (Q (some (0, -1)) sh M)
      else
        (if (1 : Int) < a2 then
          (Q (some (0, -1)) sh M)
        else
          (∃ v17 : Int, gC (gr 0 0) yX11_isLetter cX11_isLetter 1 (some (.boolean)) [(0, a3)] sh M (gPp sh M (0, v17)) ∧
            (if v17 = 0 then
              (Q (some (0, -1)) sh M)
            else
              (if a4 < -1 then
                (Q (some (0, -1)) sh M)
              else
                (if a4 < (M 4 0) then
                  ((0 ≤ a1 ∧ a1 < 4) ∧
                    ((gsh sh (479 + 10 * a1) = some (0, 8) ∧ (479 + 10 * a1) < 758) ∧
                      (∃ v55 : Int, gC (gr 0 0) yX7_find cX7_find 4 (some (.int)) [(4, (479 + 10 * a1)), (0, a2), (0, a3)] sh M (gPp sh M (0, v55)) ∧
                        (if v55 < 0 then
                          (P_X11_ref_66 sh Q a1 a2 a3 a4 (479 + 10 * a1) 0 M)
                        else
                          (P_X11_ref_66 sh Q a1 a2 a3 a4 (479 + 10 * a1) 1 M)))))
                else
                  (Q (some (0, -1)) sh M)))))))))) : gC (gr 3 70) yX11_ref cX11_ref 7 (some (.int)) [(4, 0), (0, a1), (0, a2), (0, a3), (0, a4)] sh M Q := by
  refine gC_ofA (lv := [_, _, _, _, _, _, _]) (by decide +kernel) (Nat.le_of_ble_eq_true rfl) rfl (fun hMw hav => ?_)
  refine g_iload_n (q0 := 1) (j := 1) rfl dX11_ref_0 rfl ?_
  obtain ⟨v1, e1, h⟩ := h
  refine g_callSp (as := [_]) (rest := []) mt_X11_isHistory ms_X11_isHistory ml_X11_166 dX11_ref_1 (q0 := 4) rfl rfl e1 rfl ⟨by decide, by decide⟩ (Nat.le_of_ble_eq_true rfl) ⟨Nat.zero_le _, Nat.zero_le _⟩ (fun _ => ?_)
  refine g_if_eq (q0 := 7) (tgt := 41) rfl dX11_ref_4 (by decide) (fun h4 => ?_) (fun h4 => ?_)
  · replace h := wI_pos h4 h
    refine g_iconst (q0 := 42) rfl dX11_ref_41 (k := ?_)
    exact g_ireturn dX11_ref_42 rfl ⟨Nat.zero_le _, Nat.zero_le _⟩ h
  · replace h := wI_neg h4 h
    refine g_iload_n (q0 := 8) (j := 2) rfl dX11_ref_7 rfl ?_
    refine g_if_lt (q0 := 11) (tgt := 41) rfl dX11_ref_8 (by decide) (fun h8 => ?_) (fun h8 => ?_)
    · replace h := wI_pos h8 h
      refine g_iconst (q0 := 42) rfl dX11_ref_41 (k := ?_)
      exact g_ireturn dX11_ref_42 rfl ⟨Nat.zero_le _, Nat.zero_le _⟩ h
    · replace h := wI_neg (Int.not_lt.mpr h8) h
      refine g_iload_n (q0 := 12) (j := 2) rfl dX11_ref_11 rfl ?_
      refine g_iconst (q0 := 13) rfl dX11_ref_12 (k := ?_)
      refine g_icmp_gt (q0 := 16) (tgt := 41) rfl dX11_ref_13 (by decide) (fun h13 => ?_) (fun h13 => ?_)
      · replace h := wI_pos h13 h
        refine g_iconst (q0 := 42) rfl dX11_ref_41 (k := ?_)
        exact g_ireturn dX11_ref_42 rfl ⟨Nat.zero_le _, Nat.zero_le _⟩ h
      · replace h := wI_neg (Int.not_lt.mpr h13) h
        refine g_iload_n (q0 := 17) (j := 3) rfl dX11_ref_16 rfl ?_
        obtain ⟨v17, e17, h⟩ := h
        refine g_callSp (as := [_]) (rest := []) mt_X11_isLetter ms_X11_isLetter ml_X11_169 dX11_ref_17 (q0 := 20) rfl rfl e17 rfl ⟨by decide, by decide⟩ (Nat.le_of_ble_eq_true rfl) ⟨Nat.zero_le _, Nat.zero_le _⟩ (fun _ => ?_)
        refine g_if_eq (q0 := 23) (tgt := 41) rfl dX11_ref_20 (by decide) (fun h20 => ?_) (fun h20 => ?_)
        · replace h := wI_pos h20 h
          refine g_iconst (q0 := 42) rfl dX11_ref_41 (k := ?_)
          exact g_ireturn dX11_ref_42 rfl ⟨Nat.zero_le _, Nat.zero_le _⟩ h
        · replace h := wI_neg h20 h
          refine g_iload (q0 := 25) (j := 4) rfl dX11_ref_23 rfl ?_
          refine g_iconst (q0 := 26) rfl dX11_ref_25 (k := ?_)
          refine g_icmp_lt (q0 := 29) (tgt := 41) rfl dX11_ref_26 (by decide) (fun h26 => ?_) (fun h26 => ?_)
          · replace h := wI_pos h26 h
            refine g_iconst (q0 := 42) rfl dX11_ref_41 (k := ?_)
            exact g_ireturn dX11_ref_42 rfl ⟨Nat.zero_le _, Nat.zero_le _⟩ h
          · replace h := wI_neg (Int.not_lt.mpr h26) h
            refine g_iload (q0 := 31) (j := 4) rfl dX11_ref_29 rfl ?_
            refine g_aload_n (q0 := 32) (j := 0) rfl dX11_ref_31 rfl ?_
            refine g_getp (q0 := 35) (b := 4) rfl ff_X11_27 dX11_ref_32 rfl hOK (by decide) (sh_0 hOK) rfl (by decide) ?_
            refine g_getf (q0 := 38) (t := 0) (fi := 0) rfl rfl ff_X11_135 dX11_ref_35 rfl (sh_4 hOK) ?_
            refine g_icmp_lt (q0 := 41) (tgt := 43) rfl dX11_ref_38 (by decide) (fun h38 => ?_) (fun h38 => ?_)
            · replace h := wI_pos h38 h
              refine g_aload_n (q0 := 44) (j := 0) rfl dX11_ref_43 rfl ?_
              refine g_getp (q0 := 47) (b := 408) rfl ff_X11_37 dX11_ref_44 rfl hOK (by decide) (sh_0 hOK) rfl (by decide) ?_
              refine g_iload_n (q0 := 48) (j := 1) rfl dX11_ref_47 rfl ?_
              obtain ⟨g7, h⟩ := h
              refine g_aald (q0 := 49) (q := 1) rfl dX11_ref_48 (sh_408 hOK) rfl g7.1 g7.2 ?_
              rw [(hOK.2.2.2 _ g7.1 g7.2).1]
              refine g_astore (q0 := 51) (j := 5) (lv2 := [_, _, _, _, _, _, _]) rfl dX11_ref_49 (by decide) rfl rfl ?_
              refine g_aload (q0 := 53) (j := 5) rfl dX11_ref_51 rfl ?_
              refine g_iload_n (q0 := 54) (j := 2) rfl dX11_ref_53 rfl ?_
              refine g_iload_n (q0 := 55) (j := 3) rfl dX11_ref_54 rfl ?_
              obtain ⟨g8, h⟩ := h
              obtain ⟨v55, e55, h⟩ := h
              refine g_callVp (as := [_, _]) (rest := []) mt_X7_find mi_X7_find se_X7_find ml_X11_172 dX11_ref_55 (q0 := 58) rfl rfl g8.1 rfl rfl e55 rfl ⟨by decide, by decide⟩ (Nat.le_of_ble_eq_true rfl) ⟨Nat.zero_le _, Nat.zero_le _⟩ (fun _ => ?_)
              refine g_if_lt (q0 := 61) (tgt := 65) rfl dX11_ref_58 (by decide) (fun h58 => ?_) (fun h58 => ?_)
              · replace h := wI_pos h58 h
                refine g_iconst (q0 := 66) rfl dX11_ref_65 (k := ?_)
                exact h
              · replace h := wI_neg (Int.not_lt.mpr h58) h
                refine g_iconst (q0 := 62) rfl dX11_ref_61 (k := ?_)
                refine g_goto (tgt := 66) dX11_ref_62 (by decide) ?_
                exact h
            · replace h := wI_neg (Int.not_lt.mpr h38) h
              refine g_iconst (q0 := 42) rfl dX11_ref_41 (k := ?_)
              exact g_ireturn dX11_ref_42 rfl ⟨Nat.zero_le _, Nat.zero_le _⟩ h
-- ==== X11_run
theorem dX11_run_0 : decode cX11_run 0 = .ok (.iload_n 1, 1) := by decide +kernel
theorem dX11_run_1 : decode cX11_run 1 = .ok (.invokestatic 132, 3) := by decide +kernel
theorem dX11_run_4 : decode cX11_run 4 = .ok (.ifCond .eq 12, 3) := by decide +kernel
theorem dX11_run_7 : decode cX11_run 7 = .ok (.aload_n 0, 1) := by decide +kernel
theorem dX11_run_8 : decode cX11_run 8 = .ok (.iload_n 1, 1) := by decide +kernel
theorem dX11_run_9 : decode cX11_run 9 = .ok (.iconst 0, 1) := by decide +kernel
theorem dX11_run_10 : decode cX11_run 10 = .ok (.invokevirtual 185, 3) := by decide +kernel
theorem dX11_run_13 : decode cX11_run 13 = .ok (.goto 4, 3) := by decide +kernel
theorem dX11_run_16 : decode cX11_run 16 = .ok (.iconst (-1), 1) := by decide +kernel
theorem dX11_run_17 : decode cX11_run 17 = .ok (.ireturn, 1) := by decide +kernel
theorem w_X11_run {sh : gS} {Q : Option gV → gS → gM → Prop} {a1 : Int} {M : gM} (hOK : gOK sh M) (h : (∃ v1 : Int, gC (gr 0 0) yX11_isPlan cX11_isPlan 1 (some (.boolean)) [(0, a1)] sh M (gPp sh M (0, v1)) ∧
    (if v1 = 0 then
      (Q (some (0, -1)) sh M)
    else
      (∃ P10 : Option gV → gM → Prop, gC (gr 5 162) yX11_carry cX11_carry 7 (some (.int)) [(4, 0), (0, a1), (0, 0)] sh M (gPm sh P10) ∧ ∀ (r10 : Option gV) (M10 : gM), P10 r10 M10 → ∃ v10 : Int, r10 = some (0, v10) ∧ gOK sh M10 ∧
        (Q (some (0, v10)) sh M10))))) : gC (gr 6 188) yX11_run cX11_run 2 (some (.int)) [(4, 0), (0, a1)] sh M Q := by
  refine gC_ofA (lv := [_, _]) (by decide +kernel) (Nat.le_of_ble_eq_true rfl) rfl (fun hMw hav => ?_)
  refine g_iload_n (q0 := 1) (j := 1) rfl dX11_run_0 rfl ?_
  obtain ⟨v1, e1, h⟩ := h
  refine g_callSp (as := [_]) (rest := []) mt_X11_isPlan ms_X11_isPlan ml_X11_132 dX11_run_1 (q0 := 4) rfl rfl e1 rfl ⟨by decide, by decide⟩ (Nat.le_of_ble_eq_true rfl) ⟨Nat.zero_le _, Nat.zero_le _⟩ (fun _ => ?_)
  refine g_if_eq (q0 := 7) (tgt := 16) rfl dX11_run_4 (by decide) (fun h4 => ?_) (fun h4 => ?_)
  · replace h := wI_pos h4 h
    refine g_iconst (q0 := 17) rfl dX11_run_16 (k := ?_)
    exact g_ireturn dX11_run_17 rfl ⟨Nat.zero_le _, Nat.zero_le _⟩ h
  · replace h := wI_neg h4 h
    refine g_aload_n (q0 := 8) (j := 0) rfl dX11_run_7 rfl ?_
    refine g_iload_n (q0 := 9) (j := 1) rfl dX11_run_8 rfl ?_
    refine g_iconst (q0 := 10) rfl dX11_run_9 (k := ?_)
    obtain ⟨P10, e10, h⟩ := h
    refine g_callVm (as := [_, _]) (rest := []) mt_X11_carry mi_X11_carry se_X11_carry ml_X11_185 dX11_run_10 (q0 := 13) rfl rfl (sh_0 hOK) rfl rfl e10 rfl ⟨by decide, by decide⟩ (Nat.le_of_ble_eq_true rfl) ⟨Nat.zero_le _, Nat.zero_le _⟩ (fun r10 M10 hP10 hw10 hMw10 => ?_)
    obtain ⟨v10, hr10, hOK1, h⟩ := h r10 M10 hP10
    subst hr10
    refine g_goto (tgt := 17) dX11_run_13 (by decide) ?_
    exact g_ireturn dX11_run_17 rfl ⟨Nat.zero_le _, Nat.zero_le _⟩ h
-- ==== X11_again
theorem dX11_again_0 : decode cX11_again 0 = .ok (.iload_n 1, 1) := by decide +kernel
theorem dX11_again_1 : decode cX11_again 1 = .ok (.invokestatic 132, 3) := by decide +kernel
theorem dX11_again_4 : decode cX11_again 4 = .ok (.ifCond .ne 5, 3) := by decide +kernel
theorem dX11_again_7 : decode cX11_again 7 = .ok (.iconst (-1), 1) := by decide +kernel
theorem dX11_again_8 : decode cX11_again 8 = .ok (.ireturn, 1) := by decide +kernel
theorem dX11_again_9 : decode cX11_again 9 = .ok (.aload_n 0, 1) := by decide +kernel
theorem dX11_again_10 : decode cX11_again 10 = .ok (.getfield 27, 3) := by decide +kernel
theorem dX11_again_13 : decode cX11_again 13 = .ok (.getfield 135, 3) := by decide +kernel
theorem dX11_again_16 : decode cX11_again 16 = .ok (.istore_n 2, 1) := by decide +kernel
theorem dX11_again_17 : decode cX11_again 17 = .ok (.aload_n 0, 1) := by decide +kernel
theorem dX11_again_18 : decode cX11_again 18 = .ok (.iload_n 1, 1) := by decide +kernel
theorem dX11_again_19 : decode cX11_again 19 = .ok (.iconst 1, 1) := by decide +kernel
theorem dX11_again_20 : decode cX11_again 20 = .ok (.invokevirtual 185, 3) := by decide +kernel
theorem dX11_again_23 : decode cX11_again 23 = .ok (.istore_n 3, 1) := by decide +kernel
theorem dX11_again_24 : decode cX11_again 24 = .ok (.iload_n 3, 1) := by decide +kernel
theorem dX11_again_25 : decode cX11_again 25 = .ok (.ifCond .ge 7, 3) := by decide +kernel
theorem dX11_again_28 : decode cX11_again 28 = .ok (.iload_n 3, 1) := by decide +kernel
theorem dX11_again_29 : decode cX11_again 29 = .ok (.goto 12, 3) := by decide +kernel
theorem dX11_again_32 : decode cX11_again 32 = .ok (.aload_n 0, 1) := by decide +kernel
theorem dX11_again_33 : decode cX11_again 33 = .ok (.getfield 27, 3) := by decide +kernel
theorem dX11_again_36 : decode cX11_again 36 = .ok (.getfield 135, 3) := by decide +kernel
theorem dX11_again_39 : decode cX11_again 39 = .ok (.iload_n 2, 1) := by decide +kernel
theorem dX11_again_40 : decode cX11_again 40 = .ok (.isub, 1) := by decide +kernel
theorem dX11_again_41 : decode cX11_again 41 = .ok (.ireturn, 1) := by decide +kernel
theorem w_X11_again {sh : gS} {Q : Option gV → gS → gM → Prop} {a1 : Int} {M : gM} (hOK : gOK sh M) (h : (∃ v1 : Int, gC (gr 0 0) yX11_isPlan cX11_isPlan 1 (some (.boolean)) [(0, a1)] sh M (gPp sh M (0, v1)) ∧
    (if v1 = 0 then
      (Q (some (0, -1)) sh M)
    else
      (∃ P20 : Option gV → gM → Prop, gC (gr 5 162) yX11_carry cX11_carry 7 (some (.int)) [(4, 0), (0, a1), (0, 1)] sh M (gPm sh P20) ∧ ∀ (r20 : Option gV) (M20 : gM), P20 r20 M20 → ∃ v20 : Int, r20 = some (0, v20) ∧ gOK sh M20 ∧
        (if v20 < 0 then
          (Q (some (0, v20)) sh M20)
        else
          (Q (some (0, (gw32 ((M20 4 0) - (M 4 0))))) sh M20)))))) : gC (gr 6 188) yX11_again cX11_again 4 (some (.int)) [(4, 0), (0, a1)] sh M Q := by
  refine gC_ofA (lv := [_, _, _, _]) (by decide +kernel) (Nat.le_of_ble_eq_true rfl) rfl (fun hMw hav => ?_)
  refine g_iload_n (q0 := 1) (j := 1) rfl dX11_again_0 rfl ?_
  obtain ⟨v1, e1, h⟩ := h
  refine g_callSp (as := [_]) (rest := []) mt_X11_isPlan ms_X11_isPlan ml_X11_132 dX11_again_1 (q0 := 4) rfl rfl e1 rfl ⟨by decide, by decide⟩ (Nat.le_of_ble_eq_true rfl) ⟨Nat.zero_le _, Nat.zero_le _⟩ (fun _ => ?_)
  refine g_if_ne (q0 := 7) (tgt := 9) rfl dX11_again_4 (by decide) (fun h4 => ?_) (fun h4 => ?_)
  · replace h := wI_neg h4 h
    refine g_aload_n (q0 := 10) (j := 0) rfl dX11_again_9 rfl ?_
    refine g_getp (q0 := 13) (b := 4) rfl ff_X11_27 dX11_again_10 rfl hOK (by decide) (sh_0 hOK) rfl (by decide) ?_
    refine g_getf (q0 := 16) (t := 0) (fi := 0) rfl rfl ff_X11_135 dX11_again_13 rfl (sh_4 hOK) ?_
    refine g_istore_n (q0 := 17) (j := 2) (lv2 := [_, _, _, _]) rfl dX11_again_16 (by decide) rfl rfl ?_
    refine g_aload_n (q0 := 18) (j := 0) rfl dX11_again_17 rfl ?_
    refine g_iload_n (q0 := 19) (j := 1) rfl dX11_again_18 rfl ?_
    refine g_iconst (q0 := 20) rfl dX11_again_19 (k := ?_)
    obtain ⟨P20, e20, h⟩ := h
    refine g_callVm (as := [_, _]) (rest := []) mt_X11_carry mi_X11_carry se_X11_carry ml_X11_185 dX11_again_20 (q0 := 23) rfl rfl (sh_0 hOK) rfl rfl e20 rfl ⟨by decide, by decide⟩ (Nat.le_of_ble_eq_true rfl) ⟨Nat.zero_le _, Nat.zero_le _⟩ (fun r20 M20 hP20 hw20 hMw20 => ?_)
    obtain ⟨v20, hr20, hOK1, h⟩ := h r20 M20 hP20
    subst hr20
    refine g_istore_n (q0 := 24) (j := 3) (lv2 := [_, _, _, _]) rfl dX11_again_23 (by decide) rfl rfl ?_
    refine g_iload_n (q0 := 25) (j := 3) rfl dX11_again_24 rfl ?_
    refine g_if_ge (q0 := 28) (tgt := 32) rfl dX11_again_25 (by decide) (fun h25 => ?_) (fun h25 => ?_)
    · replace h := wI_neg (Int.not_lt.mpr h25) h
      refine g_aload_n (q0 := 33) (j := 0) rfl dX11_again_32 rfl ?_
      refine g_getp (q0 := 36) (b := 4) rfl ff_X11_27 dX11_again_33 rfl hOK1 (by decide) (sh_0 hOK1) rfl (by decide) ?_
      refine g_getf (q0 := 39) (t := 0) (fi := 0) rfl rfl ff_X11_135 dX11_again_36 rfl (sh_4 hOK1) ?_
      refine g_iload_n (q0 := 40) (j := 2) rfl dX11_again_39 rfl ?_
      refine g_isubw (q0 := 41) rfl dX11_again_40 ?_
      exact g_ireturn dX11_again_41 rfl ⟨Nat.zero_le _, Nat.zero_le _⟩ h
    · replace h := wI_pos h25 h
      refine g_iload_n (q0 := 29) (j := 3) rfl dX11_again_28 rfl ?_
      refine g_goto (tgt := 41) dX11_again_29 (by decide) ?_
      exact g_ireturn dX11_again_41 rfl ⟨Nat.zero_le _, Nat.zero_le _⟩ h
  · replace h := wI_pos h4 h
    refine g_iconst (q0 := 8) rfl dX11_again_7 (k := ?_)
    exact g_ireturn dX11_again_8 rfl ⟨Nat.zero_le _, Nat.zero_le _⟩ h
-- ==== X11_carry
theorem dX11_carry_0 : decode cX11_carry 0 = .ok (.aload_n 0, 1) := by decide +kernel
theorem dX11_carry_1 : decode cX11_carry 1 = .ok (.getfield 43, 3) := by decide +kernel
theorem dX11_carry_4 : decode cX11_carry 4 = .ok (.iload_n 1, 1) := by decide +kernel
theorem dX11_carry_5 : decode cX11_carry 5 = .ok (.aaload, 1) := by decide +kernel
theorem dX11_carry_6 : decode cX11_carry 6 = .ok (.astore_n 3, 1) := by decide +kernel
theorem dX11_carry_7 : decode cX11_carry 7 = .ok (.aload_n 3, 1) := by decide +kernel
theorem dX11_carry_8 : decode cX11_carry 8 = .ok (.getfield 189, 3) := by decide +kernel
theorem dX11_carry_11 : decode cX11_carry 11 = .ok (.ifCond .ne 6, 3) := by decide +kernel
theorem dX11_carry_14 : decode cX11_carry 14 = .ok (.bipush (-2), 2) := by decide +kernel
theorem dX11_carry_16 : decode cX11_carry 16 = .ok (.ireturn, 1) := by decide +kernel
theorem dX11_carry_17 : decode cX11_carry 17 = .ok (.aload_n 0, 1) := by decide +kernel
theorem dX11_carry_18 : decode cX11_carry 18 = .ok (.getfield 27, 3) := by decide +kernel
theorem dX11_carry_21 : decode cX11_carry 21 = .ok (.getfield 135, 3) := by decide +kernel
theorem dX11_carry_24 : decode cX11_carry 24 = .ok (.istore 4, 2) := by decide +kernel
theorem dX11_carry_26 : decode cX11_carry 26 = .ok (.iconst 0, 1) := by decide +kernel
theorem dX11_carry_27 : decode cX11_carry 27 = .ok (.istore 5, 2) := by decide +kernel
theorem dX11_carry_29 : decode cX11_carry 29 = .ok (.aload_n 0, 1) := by decide +kernel
theorem dX11_carry_30 : decode cX11_carry 30 = .ok (.getfield 19, 3) := by decide +kernel
theorem dX11_carry_33 : decode cX11_carry 33 = .ok (.aload_n 3, 1) := by decide +kernel
theorem dX11_carry_34 : decode cX11_carry 34 = .ok (.aload_n 0, 1) := by decide +kernel
theorem dX11_carry_35 : decode cX11_carry 35 = .ok (.getfield 37, 3) := by decide +kernel
theorem dX11_carry_38 : decode cX11_carry 38 = .ok (.aload_n 3, 1) := by decide +kernel
theorem dX11_carry_39 : decode cX11_carry 39 = .ok (.getfield 193, 3) := by decide +kernel
theorem dX11_carry_42 : decode cX11_carry 42 = .ok (.aaload, 1) := by decide +kernel
theorem dX11_carry_43 : decode cX11_carry 43 = .ok (.iload_n 2, 1) := by decide +kernel
theorem dX11_carry_44 : decode cX11_carry 44 = .ok (.invokevirtual 196, 3) := by decide +kernel
theorem dX11_carry_47 : decode cX11_carry 47 = .ok (.iconst 0, 1) := by decide +kernel
theorem dX11_carry_48 : decode cX11_carry 48 = .ok (.istore 6, 2) := by decide +kernel
theorem dX11_carry_50 : decode cX11_carry 50 = .ok (.iload 6, 2) := by decide +kernel
theorem dX11_carry_52 : decode cX11_carry 52 = .ok (.iload 4, 2) := by decide +kernel
theorem dX11_carry_54 : decode cX11_carry 54 = .ok (.if_icmp .ge 65, 3) := by decide +kernel
theorem dX11_carry_57 : decode cX11_carry 57 = .ok (.aload_n 0, 1) := by decide +kernel
theorem dX11_carry_58 : decode cX11_carry 58 = .ok (.getfield 19, 3) := by decide +kernel
theorem dX11_carry_61 : decode cX11_carry 61 = .ok (.iload 6, 2) := by decide +kernel
theorem dX11_carry_63 : decode cX11_carry 63 = .ok (.invokevirtual 200, 3) := by decide +kernel
theorem dX11_carry_66 : decode cX11_carry 66 = .ok (.ifCond .eq 47, 3) := by decide +kernel
theorem dX11_carry_69 : decode cX11_carry 69 = .ok (.aload_n 0, 1) := by decide +kernel
theorem dX11_carry_70 : decode cX11_carry 70 = .ok (.getfield 19, 3) := by decide +kernel
theorem dX11_carry_73 : decode cX11_carry 73 = .ok (.getfield 203, 3) := by decide +kernel
theorem dX11_carry_76 : decode cX11_carry 76 = .ok (.iload 6, 2) := by decide +kernel
theorem dX11_carry_78 : decode cX11_carry 78 = .ok (.iaload, 1) := by decide +kernel
theorem dX11_carry_79 : decode cX11_carry 79 = .ok (.ifCond .lt 6, 3) := by decide +kernel
theorem dX11_carry_82 : decode cX11_carry 82 = .ok (.goto 31, 3) := by decide +kernel
theorem dX11_carry_85 : decode cX11_carry 85 = .ok (.aload_n 0, 1) := by decide +kernel
theorem dX11_carry_86 : decode cX11_carry 86 = .ok (.getfield 19, 3) := by decide +kernel
theorem dX11_carry_89 : decode cX11_carry 89 = .ok (.aload_n 3, 1) := by decide +kernel
theorem dX11_carry_90 : decode cX11_carry 90 = .ok (.iload 6, 2) := by decide +kernel
theorem dX11_carry_92 : decode cX11_carry 92 = .ok (.invokevirtual 206, 3) := by decide +kernel
theorem dX11_carry_95 : decode cX11_carry 95 = .ok (.ifCond .ne 15, 3) := by decide +kernel
theorem dX11_carry_98 : decode cX11_carry 98 = .ok (.aload_n 0, 1) := by decide +kernel
theorem dX11_carry_99 : decode cX11_carry 99 = .ok (.getfield 27, 3) := by decide +kernel
theorem dX11_carry_102 : decode cX11_carry 102 = .ok (.iload 4, 2) := by decide +kernel
theorem dX11_carry_104 : decode cX11_carry 104 = .ok (.putfield 135, 3) := by decide +kernel
theorem dX11_carry_107 : decode cX11_carry 107 = .ok (.bipush (-3), 2) := by decide +kernel
theorem dX11_carry_109 : decode cX11_carry 109 = .ok (.ireturn, 1) := by decide +kernel
theorem dX11_carry_110 : decode cX11_carry 110 = .ok (.iinc 5 1, 3) := by decide +kernel
theorem dX11_carry_113 : decode cX11_carry 113 = .ok (.iinc 6 1, 3) := by decide +kernel
theorem dX11_carry_116 : decode cX11_carry 116 = .ok (.goto (-66), 3) := by decide +kernel
theorem dX11_carry_119 : decode cX11_carry 119 = .ok (.aload_n 0, 1) := by decide +kernel
theorem dX11_carry_120 : decode cX11_carry 120 = .ok (.aload_n 3, 1) := by decide +kernel
theorem dX11_carry_121 : decode cX11_carry 121 = .ok (.iload_n 1, 1) := by decide +kernel
theorem dX11_carry_122 : decode cX11_carry 122 = .ok (.invokevirtual 210, 3) := by decide +kernel
theorem dX11_carry_125 : decode cX11_carry 125 = .ok (.aload_n 0, 1) := by decide +kernel
theorem dX11_carry_126 : decode cX11_carry 126 = .ok (.getfield 55, 3) := by decide +kernel
theorem dX11_carry_129 : decode cX11_carry 129 = .ok (.getfield 180, 3) := by decide +kernel
theorem dX11_carry_132 : decode cX11_carry 132 = .ok (.bipush 8, 2) := by decide +kernel
theorem dX11_carry_134 : decode cX11_carry 134 = .ok (.if_icmp .le 15, 3) := by decide +kernel
theorem dX11_carry_137 : decode cX11_carry 137 = .ok (.aload_n 0, 1) := by decide +kernel
theorem dX11_carry_138 : decode cX11_carry 138 = .ok (.getfield 27, 3) := by decide +kernel
theorem dX11_carry_141 : decode cX11_carry 141 = .ok (.iload 4, 2) := by decide +kernel
theorem dX11_carry_143 : decode cX11_carry 143 = .ok (.putfield 135, 3) := by decide +kernel
theorem dX11_carry_146 : decode cX11_carry 146 = .ok (.bipush (-5), 2) := by decide +kernel
theorem dX11_carry_148 : decode cX11_carry 148 = .ok (.ireturn, 1) := by decide +kernel
theorem dX11_carry_149 : decode cX11_carry 149 = .ok (.aload_n 3, 1) := by decide +kernel
theorem dX11_carry_150 : decode cX11_carry 150 = .ok (.aload_n 0, 1) := by decide +kernel
theorem dX11_carry_151 : decode cX11_carry 151 = .ok (.getfield 19, 3) := by decide +kernel
theorem dX11_carry_154 : decode cX11_carry 154 = .ok (.getfield 214, 3) := by decide +kernel
theorem dX11_carry_157 : decode cX11_carry 157 = .ok (.aload_n 0, 1) := by decide +kernel
theorem dX11_carry_158 : decode cX11_carry 158 = .ok (.getfield 19, 3) := by decide +kernel
theorem dX11_carry_161 : decode cX11_carry 161 = .ok (.getfield 203, 3) := by decide +kernel
theorem dX11_carry_164 : decode cX11_carry 164 = .ok (.invokevirtual 217, 3) := by decide +kernel
theorem dX11_carry_167 : decode cX11_carry 167 = .ok (.aload_n 0, 1) := by decide +kernel
theorem dX11_carry_168 : decode cX11_carry 168 = .ok (.getfield 37, 3) := by decide +kernel
theorem dX11_carry_171 : decode cX11_carry 171 = .ok (.aload_n 3, 1) := by decide +kernel
theorem dX11_carry_172 : decode cX11_carry 172 = .ok (.getfield 221, 3) := by decide +kernel
theorem dX11_carry_175 : decode cX11_carry 175 = .ok (.aaload, 1) := by decide +kernel
theorem dX11_carry_176 : decode cX11_carry 176 = .ok (.aload_n 0, 1) := by decide +kernel
theorem dX11_carry_177 : decode cX11_carry 177 = .ok (.getfield 55, 3) := by decide +kernel
theorem dX11_carry_180 : decode cX11_carry 180 = .ok (.invokevirtual 224, 3) := by decide +kernel
theorem dX11_carry_183 : decode cX11_carry 183 = .ok (.iload 5, 2) := by decide +kernel
theorem dX11_carry_185 : decode cX11_carry 185 = .ok (.ireturn, 1) := by decide +kernel
def P_X11_carry_50 (sh : gS) (Q : Option gV → gS → gM → Prop) (x1 x2 x3 x4 x5 x6 : Int) (M : gM) : Prop := gA (gr 5 162) yX11_carry cX11_carry 7 (some (.int)) Q (0, 0) 50 [(4, 0), (0, x1), (0, x2), (4, x3), (0, x4), (0, x5), (0, x6)] [] sh M
theorem w_X11_carry_50 {sh : gS} {Q : Option gV → gS → gM → Prop} {x1 x2 x3 x4 x5 x6 : Int} {M : gM} (hOK : gOK sh M) (h : (if x6 < x4 then
    (∃ v63 : Int, gC (gr 1 22) yX8_isOfPlan cX8_isOfPlan 2 (some (.boolean)) [(4, 3), (0, x6)] sh M (gPp sh M (0, v63)) ∧
      (if v63 = 0 then
        (P_X11_carry_50 sh Q x1 x2 x3 x4 x5 (gw32 (x6 + 1)) M)
      else
        ((0 ≤ x6 ∧ x6 < 120) ∧
          (if (M 396 x6) < 0 then
            (∃ P92 : Option gV → gM → Prop, gC (gr 4 137) yX8_rewrite cX8_rewrite 6 (some (.boolean)) [(4, 3), (4, x3), (0, x6)] sh M (gPm sh P92) ∧ ∀ (r92 : Option gV) (M92 : gM), P92 r92 M92 → ∃ v92 : Int, r92 = some (0, v92) ∧ gOK sh M92 ∧
              (if v92 = 0 then
                (Q (some (0, -3)) sh (gU M92 4 0 x4))
              else
                (P_X11_carry_50 sh Q x1 x2 x3 x4 (gw32 (x5 + 1)) (gw32 (x6 + 1)) M92)))
          else
            (P_X11_carry_50 sh Q x1 x2 x3 x4 x5 (gw32 (x6 + 1)) M)))))
  else
    (∃ P122 : Option gV → gM → Prop, gC (gr 3 70) yX11_layRefs cX11_layRefs 8 none [(4, 0), (4, x3), (0, x1)] sh M (gPm sh P122) ∧ ∀ (r122 : Option gV) (M122 : gM), P122 r122 M122 → r122 = none ∧ gOK sh M122 ∧
      (if (8 : Int) < (M122 435 0) then
        (Q (some (0, -5)) sh (gU M122 4 0 x4))
      else
        ((gsh sh x3 = some (0, 6) ∧ x3 < 758) ∧
          (∃ P164 : Option gV → gM → Prop, gC (gr 1 68) yX5_takeMap cX5_takeMap 3 none [(4, x3), (4, 395), (4, 396)] sh M122 (gPm sh P164) ∧ ∀ (r164 : Option gV) (M164 : gM), P164 r164 M164 → r164 = none ∧ gOK sh M164 ∧
            ((0 ≤ (M164 x3 3) ∧ (M164 x3 3) < 4) ∧
              ((gsh sh (479 + 10 * (M164 x3 3)) = some (0, 8) ∧ (479 + 10 * (M164 x3 3)) < 758) ∧
                (∃ P180 : Option gV → gM → Prop, gC (gr 1 23) yX7_copy cX7_copy 3 none [(4, (479 + 10 * (M164 x3 3))), (4, 435)] sh M164 (gPm sh P180) ∧ ∀ (r180 : Option gV) (M180 : gM), P180 r180 M180 → r180 = none ∧ gOK sh M180 ∧
                  (Q (some (0, x5)) sh M180)))))))))) : P_X11_carry_50 sh Q x1 x2 x3 x4 x5 x6 M := by
  unfold P_X11_carry_50
  refine g_iload (q0 := 52) (j := 6) rfl dX11_carry_50 rfl ?_
  refine g_iload (q0 := 54) (j := 4) rfl dX11_carry_52 rfl ?_
  refine g_icmp_ge (q0 := 57) (tgt := 119) rfl dX11_carry_54 (by decide) (fun h54 => ?_) (fun h54 => ?_)
  · replace h := wI_neg (Int.not_lt.mpr h54) h
    refine g_aload_n (q0 := 120) (j := 0) rfl dX11_carry_119 rfl ?_
    refine g_aload_n (q0 := 121) (j := 3) rfl dX11_carry_120 rfl ?_
    refine g_iload_n (q0 := 122) (j := 1) rfl dX11_carry_121 rfl ?_
    obtain ⟨P122, e122, h⟩ := h
    refine g_callVm (as := [_, _]) (rest := []) mt_X11_layRefs mi_X11_layRefs se_X11_layRefs ml_X11_210 dX11_carry_122 (q0 := 125) rfl rfl (sh_0 hOK) rfl rfl e122 rfl ⟨by decide, by decide⟩ (Nat.le_of_ble_eq_true rfl) ⟨Nat.zero_le _, Nat.zero_le _⟩ (fun r122 M122 hP122 hw122 hMw122 => ?_)
    obtain ⟨hr122, hOK1, h⟩ := h r122 M122 hP122
    subst hr122
    refine g_aload_n (q0 := 126) (j := 0) rfl dX11_carry_125 rfl ?_
    refine g_getp (q0 := 129) (b := 435) rfl ff_X11_55 dX11_carry_126 rfl hOK1 (by decide) (sh_0 hOK1) rfl (by decide) ?_
    refine g_getf (q0 := 132) (t := 0) (fi := 0) rfl rfl ff_X11_180 dX11_carry_129 rfl (sh_435 hOK1) ?_
    refine g_bipush (q0 := 134) rfl dX11_carry_132 (k := ?_)
    refine g_icmp_le (q0 := 137) (tgt := 149) rfl dX11_carry_134 (by decide) (fun h134 => ?_) (fun h134 => ?_)
    · replace h := wI_neg (Int.not_lt.mpr h134) h
      refine g_aload_n (q0 := 150) (j := 3) rfl dX11_carry_149 rfl ?_
      refine g_aload_n (q0 := 151) (j := 0) rfl dX11_carry_150 rfl ?_
      refine g_getp (q0 := 154) (b := 3) rfl ff_X11_19 dX11_carry_151 rfl hOK1 (by decide) (sh_0 hOK1) rfl (by decide) ?_
      refine g_getp (q0 := 157) (b := 395) rfl ff_X11_214 dX11_carry_154 rfl hOK1 (by decide) (sh_3 hOK1) rfl (by decide) ?_
      refine g_aload_n (q0 := 158) (j := 0) rfl dX11_carry_157 rfl ?_
      refine g_getp (q0 := 161) (b := 3) rfl ff_X11_19 dX11_carry_158 rfl hOK1 (by decide) (sh_0 hOK1) rfl (by decide) ?_
      refine g_getp (q0 := 164) (b := 396) rfl ff_X11_203 dX11_carry_161 rfl hOK1 (by decide) (sh_3 hOK1) rfl (by decide) ?_
      obtain ⟨g2, h⟩ := h
      obtain ⟨P164, e164, h⟩ := h
      refine g_callVm (as := [_, _]) (rest := []) mt_X5_takeMap mi_X5_takeMap se_X5_takeMap ml_X11_217 dX11_carry_164 (q0 := 167) rfl rfl g2.1 rfl rfl e164 rfl ⟨by decide, by decide⟩ (Nat.le_of_ble_eq_true rfl) ⟨Nat.zero_le _, Nat.zero_le _⟩ (fun r164 M164 hP164 hw164 hMw164 => ?_)
      obtain ⟨hr164, hOK3, h⟩ := h r164 M164 hP164
      subst hr164
      refine g_aload_n (q0 := 168) (j := 0) rfl dX11_carry_167 rfl ?_
      refine g_getp (q0 := 171) (b := 408) rfl ff_X11_37 dX11_carry_168 rfl hOK3 (by decide) (sh_0 hOK3) rfl (by decide) ?_
      refine g_aload_n (q0 := 172) (j := 3) rfl dX11_carry_171 rfl ?_
      refine g_getf (q0 := 175) (t := 0) (fi := 3) rfl rfl ff_X11_221 dX11_carry_172 rfl g2.1 ?_
      obtain ⟨g4, h⟩ := h
      refine g_aald (q0 := 176) (q := 1) rfl dX11_carry_175 (sh_408 hOK3) rfl g4.1 g4.2 ?_
      rw [(hOK3.2.2.2 _ g4.1 g4.2).1]
      refine g_aload_n (q0 := 177) (j := 0) rfl dX11_carry_176 rfl ?_
      refine g_getp (q0 := 180) (b := 435) rfl ff_X11_55 dX11_carry_177 rfl hOK3 (by decide) (sh_0 hOK3) rfl (by decide) ?_
      obtain ⟨g5, h⟩ := h
      obtain ⟨P180, e180, h⟩ := h
      refine g_callVm (as := [_]) (rest := []) mt_X7_copy mi_X7_copy se_X7_copy ml_X11_224 dX11_carry_180 (q0 := 183) rfl rfl g5.1 rfl rfl e180 rfl ⟨by decide, by decide⟩ (Nat.le_of_ble_eq_true rfl) ⟨Nat.zero_le _, Nat.zero_le _⟩ (fun r180 M180 hP180 hw180 hMw180 => ?_)
      obtain ⟨hr180, hOK6, h⟩ := h r180 M180 hP180
      subst hr180
      refine g_iload (q0 := 185) (j := 5) rfl dX11_carry_183 rfl ?_
      exact g_ireturn dX11_carry_185 rfl ⟨Nat.zero_le _, Nat.zero_le _⟩ h
    · replace h := wI_pos h134 h
      refine g_aload_n (q0 := 138) (j := 0) rfl dX11_carry_137 rfl ?_
      refine g_getp (q0 := 141) (b := 4) rfl ff_X11_27 dX11_carry_138 rfl hOK1 (by decide) (sh_0 hOK1) rfl (by decide) ?_
      refine g_iload (q0 := 143) (j := 4) rfl dX11_carry_141 rfl ?_
      refine g_put (q0 := 146) (t := 0) (fi := 0) rfl rfl ff_X11_135 dX11_carry_143 rfl (sh_4 hOK1) rfl (fun _ => ⟨rfl, rfl⟩) ?_
      have hOK7 : gOK sh (gU M122 4 0 x4) := gOK_o hOK1 (sh_4 hOK1) (f := 0) rfl rfl
      refine g_bipush (q0 := 148) rfl dX11_carry_146 (k := ?_)
      exact g_ireturn dX11_carry_148 rfl ⟨Nat.zero_le _, Nat.zero_le _⟩ h
  · replace h := wI_pos h54 h
    refine g_aload_n (q0 := 58) (j := 0) rfl dX11_carry_57 rfl ?_
    refine g_getp (q0 := 61) (b := 3) rfl ff_X11_19 dX11_carry_58 rfl hOK (by decide) (sh_0 hOK) rfl (by decide) ?_
    refine g_iload (q0 := 63) (j := 6) rfl dX11_carry_61 rfl ?_
    obtain ⟨v63, e63, h⟩ := h
    refine g_callVp (as := [_]) (rest := []) mt_X8_isOfPlan mi_X8_isOfPlan se_X8_isOfPlan ml_X11_200 dX11_carry_63 (q0 := 66) rfl rfl (sh_3 hOK) rfl rfl e63 rfl ⟨by decide, by decide⟩ (Nat.le_of_ble_eq_true rfl) ⟨Nat.zero_le _, Nat.zero_le _⟩ (fun _ => ?_)
    refine g_if_eq (q0 := 69) (tgt := 113) rfl dX11_carry_66 (by decide) (fun h66 => ?_) (fun h66 => ?_)
    · replace h := wI_pos h66 h
      refine g_iincw (q0 := 116) (lv2 := [_, _, _, _, _, _, _]) rfl dX11_carry_113 rfl (by decide) rfl rfl ?_
      refine g_goto (tgt := 50) dX11_carry_116 (by decide) ?_
      exact h
    · replace h := wI_neg h66 h
      refine g_aload_n (q0 := 70) (j := 0) rfl dX11_carry_69 rfl ?_
      refine g_getp (q0 := 73) (b := 3) rfl ff_X11_19 dX11_carry_70 rfl hOK (by decide) (sh_0 hOK) rfl (by decide) ?_
      refine g_getp (q0 := 76) (b := 396) rfl ff_X11_203 dX11_carry_73 rfl hOK (by decide) (sh_3 hOK) rfl (by decide) ?_
      refine g_iload (q0 := 78) (j := 6) rfl dX11_carry_76 rfl ?_
      obtain ⟨g8, h⟩ := h
      refine g_iald (q0 := 79) rfl dX11_carry_78 (sh_396 hOK) g8.1 g8.2 ?_
      refine g_if_lt (q0 := 82) (tgt := 85) rfl dX11_carry_79 (by decide) (fun h79 => ?_) (fun h79 => ?_)
      · replace h := wI_pos h79 h
        refine g_aload_n (q0 := 86) (j := 0) rfl dX11_carry_85 rfl ?_
        refine g_getp (q0 := 89) (b := 3) rfl ff_X11_19 dX11_carry_86 rfl hOK (by decide) (sh_0 hOK) rfl (by decide) ?_
        refine g_aload_n (q0 := 90) (j := 3) rfl dX11_carry_89 rfl ?_
        refine g_iload (q0 := 92) (j := 6) rfl dX11_carry_90 rfl ?_
        obtain ⟨P92, e92, h⟩ := h
        refine g_callVm (as := [_, _]) (rest := []) mt_X8_rewrite mi_X8_rewrite se_X8_rewrite ml_X11_206 dX11_carry_92 (q0 := 95) rfl rfl (sh_3 hOK) rfl rfl e92 rfl ⟨by decide, by decide⟩ (Nat.le_of_ble_eq_true rfl) ⟨Nat.zero_le _, Nat.zero_le _⟩ (fun r92 M92 hP92 hw92 hMw92 => ?_)
        obtain ⟨v92, hr92, hOK9, h⟩ := h r92 M92 hP92
        subst hr92
        refine g_if_ne (q0 := 98) (tgt := 110) rfl dX11_carry_95 (by decide) (fun h95 => ?_) (fun h95 => ?_)
        · replace h := wI_neg h95 h
          refine g_iincw (q0 := 113) (lv2 := [_, _, _, _, _, _, _]) rfl dX11_carry_110 rfl (by decide) rfl rfl ?_
          refine g_iincw (q0 := 116) (lv2 := [_, _, _, _, _, _, _]) rfl dX11_carry_113 rfl (by decide) rfl rfl ?_
          refine g_goto (tgt := 50) dX11_carry_116 (by decide) ?_
          exact h
        · replace h := wI_pos h95 h
          refine g_aload_n (q0 := 99) (j := 0) rfl dX11_carry_98 rfl ?_
          refine g_getp (q0 := 102) (b := 4) rfl ff_X11_27 dX11_carry_99 rfl hOK9 (by decide) (sh_0 hOK9) rfl (by decide) ?_
          refine g_iload (q0 := 104) (j := 4) rfl dX11_carry_102 rfl ?_
          refine g_put (q0 := 107) (t := 0) (fi := 0) rfl rfl ff_X11_135 dX11_carry_104 rfl (sh_4 hOK9) rfl (fun _ => ⟨rfl, rfl⟩) ?_
          have hOK10 : gOK sh (gU M92 4 0 x4) := gOK_o hOK9 (sh_4 hOK9) (f := 0) rfl rfl
          refine g_bipush (q0 := 109) rfl dX11_carry_107 (k := ?_)
          exact g_ireturn dX11_carry_109 rfl ⟨Nat.zero_le _, Nat.zero_le _⟩ h
      · replace h := wI_neg (Int.not_lt.mpr h79) h
        refine g_goto (tgt := 113) dX11_carry_82 (by decide) ?_
        refine g_iincw (q0 := 116) (lv2 := [_, _, _, _, _, _, _]) rfl dX11_carry_113 rfl (by decide) rfl rfl ?_
        refine g_goto (tgt := 50) dX11_carry_116 (by decide) ?_
        exact h
theorem w_X11_carry {sh : gS} {Q : Option gV → gS → gM → Prop} {a1 a2 : Int} {M : gM} (hOK : gOK sh M) (h : ((0 ≤ a1 ∧ a1 < 4) ∧
    ((gsh sh (519 + 48 * a1) = some (0, 6) ∧ (519 + 48 * a1) < 758) ∧
      (if (M (519 + 48 * a1) 0) = 0 then
        (Q (some (0, -2)) sh M)
      else
        ((0 ≤ (M (519 + 48 * a1) 2) ∧ (M (519 + 48 * a1) 2) < 4) ∧
          (∃ P44 : Option gV → gM → Prop, gC (gr 3 72) yX8_begin cX8_begin 4 none [(4, 3), (4, (519 + 48 * a1)), (4, (479 + 10 * (M (519 + 48 * a1) 2))), (0, a2)] sh M (gPm sh P44) ∧ ∀ (r44 : Option gV) (M44 : gM), P44 r44 M44 → r44 = none ∧ gOK sh M44 ∧
            (P_X11_carry_50 sh Q a1 a2 (519 + 48 * a1) (M 4 0) 0 0 M44))))))) : gC (gr 5 162) yX11_carry cX11_carry 7 (some (.int)) [(4, 0), (0, a1), (0, a2)] sh M Q := by
  refine gC_ofA (lv := [_, _, _, _, _, _, _]) (by decide +kernel) (Nat.le_of_ble_eq_true rfl) rfl (fun hMw hav => ?_)
  refine g_aload_n (q0 := 1) (j := 0) rfl dX11_carry_0 rfl ?_
  refine g_getp (q0 := 4) (b := 409) rfl ff_X11_43 dX11_carry_1 rfl hOK (by decide) (sh_0 hOK) rfl (by decide) ?_
  refine g_iload_n (q0 := 5) (j := 1) rfl dX11_carry_4 rfl ?_
  obtain ⟨g11, h⟩ := h
  refine g_aald (q0 := 6) (q := 2) rfl dX11_carry_5 (sh_409 hOK) rfl g11.1 g11.2 ?_
  rw [(hOK.2.2.2 _ g11.1 g11.2).2.2.1]
  refine g_astore_n (q0 := 7) (j := 3) (lv2 := [_, _, _, _, _, _, _]) rfl dX11_carry_6 (by decide) rfl rfl ?_
  refine g_aload_n (q0 := 8) (j := 3) rfl dX11_carry_7 rfl ?_
  obtain ⟨g12, h⟩ := h
  refine g_getf (q0 := 11) (t := 0) (fi := 0) rfl rfl ff_X11_189 dX11_carry_8 rfl g12.1 ?_
  refine g_if_ne (q0 := 14) (tgt := 17) rfl dX11_carry_11 (by decide) (fun h11 => ?_) (fun h11 => ?_)
  · replace h := wI_neg h11 h
    refine g_aload_n (q0 := 18) (j := 0) rfl dX11_carry_17 rfl ?_
    refine g_getp (q0 := 21) (b := 4) rfl ff_X11_27 dX11_carry_18 rfl hOK (by decide) (sh_0 hOK) rfl (by decide) ?_
    refine g_getf (q0 := 24) (t := 0) (fi := 0) rfl rfl ff_X11_135 dX11_carry_21 rfl (sh_4 hOK) ?_
    refine g_istore (q0 := 26) (j := 4) (lv2 := [_, _, _, _, _, _, _]) rfl dX11_carry_24 (by decide) rfl rfl ?_
    refine g_iconst (q0 := 27) rfl dX11_carry_26 (k := ?_)
    refine g_istore (q0 := 29) (j := 5) (lv2 := [_, _, _, _, _, _, _]) rfl dX11_carry_27 (by decide) rfl rfl ?_
    refine g_aload_n (q0 := 30) (j := 0) rfl dX11_carry_29 rfl ?_
    refine g_getp (q0 := 33) (b := 3) rfl ff_X11_19 dX11_carry_30 rfl hOK (by decide) (sh_0 hOK) rfl (by decide) ?_
    refine g_aload_n (q0 := 34) (j := 3) rfl dX11_carry_33 rfl ?_
    refine g_aload_n (q0 := 35) (j := 0) rfl dX11_carry_34 rfl ?_
    refine g_getp (q0 := 38) (b := 408) rfl ff_X11_37 dX11_carry_35 rfl hOK (by decide) (sh_0 hOK) rfl (by decide) ?_
    refine g_aload_n (q0 := 39) (j := 3) rfl dX11_carry_38 rfl ?_
    refine g_getf (q0 := 42) (t := 0) (fi := 2) rfl rfl ff_X11_193 dX11_carry_39 rfl g12.1 ?_
    obtain ⟨g13, h⟩ := h
    refine g_aald (q0 := 43) (q := 1) rfl dX11_carry_42 (sh_408 hOK) rfl g13.1 g13.2 ?_
    rw [(hOK.2.2.2 _ g13.1 g13.2).1]
    refine g_iload_n (q0 := 44) (j := 2) rfl dX11_carry_43 rfl ?_
    obtain ⟨P44, e44, h⟩ := h
    refine g_callVm (as := [_, _, _]) (rest := []) mt_X8_begin mi_X8_begin se_X8_begin ml_X11_196 dX11_carry_44 (q0 := 47) rfl rfl (sh_3 hOK) rfl rfl e44 rfl ⟨by decide, by decide⟩ (Nat.le_of_ble_eq_true rfl) ⟨Nat.zero_le _, Nat.zero_le _⟩ (fun r44 M44 hP44 hw44 hMw44 => ?_)
    obtain ⟨hr44, hOK14, h⟩ := h r44 M44 hP44
    subst hr44
    refine g_iconst (q0 := 48) rfl dX11_carry_47 (k := ?_)
    refine g_istore (q0 := 50) (j := 6) (lv2 := [_, _, _, _, _, _, _]) rfl dX11_carry_48 (by decide) rfl rfl ?_
    exact h
  · replace h := wI_pos h11 h
    refine g_bipush (q0 := 16) rfl dX11_carry_14 (k := ?_)
    exact g_ireturn dX11_carry_16 rfl ⟨Nat.zero_le _, Nat.zero_le _⟩ h
-- ==== X11_layRefs
theorem dX11_layRefs_0 : decode cX11_layRefs 0 = .ok (.aload_n 0, 1) := by decide +kernel
theorem dX11_layRefs_1 : decode cX11_layRefs 1 = .ok (.getfield 37, 3) := by decide +kernel
theorem dX11_layRefs_4 : decode cX11_layRefs 4 = .ok (.aload_n 1, 1) := by decide +kernel
theorem dX11_layRefs_5 : decode cX11_layRefs 5 = .ok (.getfield 193, 3) := by decide +kernel
theorem dX11_layRefs_8 : decode cX11_layRefs 8 = .ok (.aaload, 1) := by decide +kernel
theorem dX11_layRefs_9 : decode cX11_layRefs 9 = .ok (.astore_n 3, 1) := by decide +kernel
theorem dX11_layRefs_10 : decode cX11_layRefs 10 = .ok (.aload_n 0, 1) := by decide +kernel
theorem dX11_layRefs_11 : decode cX11_layRefs 11 = .ok (.getfield 55, 3) := by decide +kernel
theorem dX11_layRefs_14 : decode cX11_layRefs 14 = .ok (.aload_n 0, 1) := by decide +kernel
theorem dX11_layRefs_15 : decode cX11_layRefs 15 = .ok (.getfield 37, 3) := by decide +kernel
theorem dX11_layRefs_18 : decode cX11_layRefs 18 = .ok (.aload_n 1, 1) := by decide +kernel
theorem dX11_layRefs_19 : decode cX11_layRefs 19 = .ok (.getfield 221, 3) := by decide +kernel
theorem dX11_layRefs_22 : decode cX11_layRefs 22 = .ok (.aaload, 1) := by decide +kernel
theorem dX11_layRefs_23 : decode cX11_layRefs 23 = .ok (.invokevirtual 224, 3) := by decide +kernel
theorem dX11_layRefs_26 : decode cX11_layRefs 26 = .ok (.aload_n 0, 1) := by decide +kernel
theorem dX11_layRefs_27 : decode cX11_layRefs 27 = .ok (.getfield 55, 3) := by decide +kernel
theorem dX11_layRefs_30 : decode cX11_layRefs 30 = .ok (.iload_n 2, 1) := by decide +kernel
theorem dX11_layRefs_31 : decode cX11_layRefs 31 = .ok (.invokevirtual 227, 3) := by decide +kernel
theorem dX11_layRefs_34 : decode cX11_layRefs 34 = .ok (.iconst 0, 1) := by decide +kernel
theorem dX11_layRefs_35 : decode cX11_layRefs 35 = .ok (.istore 4, 2) := by decide +kernel
theorem dX11_layRefs_37 : decode cX11_layRefs 37 = .ok (.iload 4, 2) := by decide +kernel
theorem dX11_layRefs_39 : decode cX11_layRefs 39 = .ok (.aload_n 3, 1) := by decide +kernel
theorem dX11_layRefs_40 : decode cX11_layRefs 40 = .ok (.getfield 180, 3) := by decide +kernel
theorem dX11_layRefs_43 : decode cX11_layRefs 43 = .ok (.if_icmp .ge 110, 3) := by decide +kernel
theorem dX11_layRefs_46 : decode cX11_layRefs 46 = .ok (.aload_n 3, 1) := by decide +kernel
theorem dX11_layRefs_47 : decode cX11_layRefs 47 = .ok (.getfield 230, 3) := by decide +kernel
theorem dX11_layRefs_50 : decode cX11_layRefs 50 = .ok (.iload 4, 2) := by decide +kernel
theorem dX11_layRefs_52 : decode cX11_layRefs 52 = .ok (.iaload, 1) := by decide +kernel
theorem dX11_layRefs_53 : decode cX11_layRefs 53 = .ok (.istore 5, 2) := by decide +kernel
theorem dX11_layRefs_55 : decode cX11_layRefs 55 = .ok (.aload_n 0, 1) := by decide +kernel
theorem dX11_layRefs_56 : decode cX11_layRefs 56 = .ok (.getfield 19, 3) := by decide +kernel
theorem dX11_layRefs_59 : decode cX11_layRefs 59 = .ok (.getfield 214, 3) := by decide +kernel
theorem dX11_layRefs_62 : decode cX11_layRefs 62 = .ok (.iload 5, 2) := by decide +kernel
theorem dX11_layRefs_64 : decode cX11_layRefs 64 = .ok (.iaload, 1) := by decide +kernel
theorem dX11_layRefs_65 : decode cX11_layRefs 65 = .ok (.istore 6, 2) := by decide +kernel
theorem dX11_layRefs_67 : decode cX11_layRefs 67 = .ok (.aload_n 3, 1) := by decide +kernel
theorem dX11_layRefs_68 : decode cX11_layRefs 68 = .ok (.getfield 232, 3) := by decide +kernel
theorem dX11_layRefs_71 : decode cX11_layRefs 71 = .ok (.iload 4, 2) := by decide +kernel
theorem dX11_layRefs_73 : decode cX11_layRefs 73 = .ok (.iaload, 1) := by decide +kernel
theorem dX11_layRefs_74 : decode cX11_layRefs 74 = .ok (.ifCond .eq 32, 3) := by decide +kernel
theorem dX11_layRefs_77 : decode cX11_layRefs 77 = .ok (.aload_n 1, 1) := by decide +kernel
theorem dX11_layRefs_78 : decode cX11_layRefs 78 = .ok (.getfield 235, 3) := by decide +kernel
theorem dX11_layRefs_81 : decode cX11_layRefs 81 = .ok (.iconst 2, 1) := by decide +kernel
theorem dX11_layRefs_82 : decode cX11_layRefs 82 = .ok (.if_icmp .eq 24, 3) := by decide +kernel
theorem dX11_layRefs_85 : decode cX11_layRefs 85 = .ok (.aload_n 1, 1) := by decide +kernel
theorem dX11_layRefs_86 : decode cX11_layRefs 86 = .ok (.getfield 235, 3) := by decide +kernel
theorem dX11_layRefs_89 : decode cX11_layRefs 89 = .ok (.iconst 1, 1) := by decide +kernel
theorem dX11_layRefs_90 : decode cX11_layRefs 90 = .ok (.if_icmp .ne 20, 3) := by decide +kernel
theorem dX11_layRefs_93 : decode cX11_layRefs 93 = .ok (.aload_n 0, 1) := by decide +kernel
theorem dX11_layRefs_94 : decode cX11_layRefs 94 = .ok (.getfield 19, 3) := by decide +kernel
theorem dX11_layRefs_97 : decode cX11_layRefs 97 = .ok (.getfield 203, 3) := by decide +kernel
theorem dX11_layRefs_100 : decode cX11_layRefs 100 = .ok (.iload 5, 2) := by decide +kernel
theorem dX11_layRefs_102 : decode cX11_layRefs 102 = .ok (.iaload, 1) := by decide +kernel
theorem dX11_layRefs_103 : decode cX11_layRefs 103 = .ok (.ifCond .ne 7, 3) := by decide +kernel
theorem dX11_layRefs_106 : decode cX11_layRefs 106 = .ok (.iconst 1, 1) := by decide +kernel
theorem dX11_layRefs_107 : decode cX11_layRefs 107 = .ok (.goto 4, 3) := by decide +kernel
theorem dX11_layRefs_110 : decode cX11_layRefs 110 = .ok (.iconst 0, 1) := by decide +kernel
theorem dX11_layRefs_111 : decode cX11_layRefs 111 = .ok (.istore 7, 2) := by decide +kernel
theorem dX11_layRefs_113 : decode cX11_layRefs 113 = .ok (.iload 7, 2) := by decide +kernel
theorem dX11_layRefs_115 : decode cX11_layRefs 115 = .ok (.ifCond .eq 32, 3) := by decide +kernel
theorem dX11_layRefs_118 : decode cX11_layRefs 118 = .ok (.iload 6, 2) := by decide +kernel
theorem dX11_layRefs_120 : decode cX11_layRefs 120 = .ok (.ifCond .lt 27, 3) := by decide +kernel
theorem dX11_layRefs_123 : decode cX11_layRefs 123 = .ok (.aload_n 0, 1) := by decide +kernel
theorem dX11_layRefs_124 : decode cX11_layRefs 124 = .ok (.getfield 55, 3) := by decide +kernel
theorem dX11_layRefs_127 : decode cX11_layRefs 127 = .ok (.aload_n 3, 1) := by decide +kernel
theorem dX11_layRefs_128 : decode cX11_layRefs 128 = .ok (.getfield 232, 3) := by decide +kernel
theorem dX11_layRefs_131 : decode cX11_layRefs 131 = .ok (.iload 4, 2) := by decide +kernel
theorem dX11_layRefs_133 : decode cX11_layRefs 133 = .ok (.iaload, 1) := by decide +kernel
theorem dX11_layRefs_134 : decode cX11_layRefs 134 = .ok (.aload_n 3, 1) := by decide +kernel
theorem dX11_layRefs_135 : decode cX11_layRefs 135 = .ok (.getfield 238, 3) := by decide +kernel
theorem dX11_layRefs_138 : decode cX11_layRefs 138 = .ok (.iload 4, 2) := by decide +kernel
theorem dX11_layRefs_140 : decode cX11_layRefs 140 = .ok (.iaload, 1) := by decide +kernel
theorem dX11_layRefs_141 : decode cX11_layRefs 141 = .ok (.iload 6, 2) := by decide +kernel
theorem dX11_layRefs_143 : decode cX11_layRefs 143 = .ok (.iload_n 2, 1) := by decide +kernel
theorem dX11_layRefs_144 : decode cX11_layRefs 144 = .ok (.invokevirtual 181, 3) := by decide +kernel
theorem dX11_layRefs_147 : decode cX11_layRefs 147 = .ok (.iinc 4 1, 3) := by decide +kernel
theorem dX11_layRefs_150 : decode cX11_layRefs 150 = .ok (.goto (-113), 3) := by decide +kernel
theorem dX11_layRefs_153 : decode cX11_layRefs 153 = .ok (.return_, 1) := by decide +kernel
def P_X11_layRefs_37 (sh : gS) (Q : Option gV → gS → gM → Prop) (x1 x2 x3 x4 : Int) (M : gM) : Prop := gA (gr 3 70) yX11_layRefs cX11_layRefs 8 none Q (0, 0) 37 [(4, 0), (4, x1), (0, x2), (4, x3), (0, x4), (9, 0), (9, 0), (9, 0)] [] sh M
def P_X11_layRefs_111 (sh : gS) (Q : Option gV → gS → gM → Prop) (x1 x2 x3 x4 x5 x6 s0 : Int) (M : gM) : Prop := gA (gr 3 70) yX11_layRefs cX11_layRefs 8 none Q (0, 0) 111 [(4, 0), (4, x1), (0, x2), (4, x3), (0, x4), (0, x5), (0, x6), (9, 0)] [(0, s0)] sh M
theorem w_X11_layRefs_37 {sh : gS} {Q : Option gV → gS → gM → Prop} {x1 x2 x3 x4 : Int} {M : gM} (hOK : gOK sh M) (h : ((gsh sh x3 = some (0, 8) ∧ x3 < 758) ∧
    (if x4 < (M x3 0) then
      (∃ n2 : Nat, gsh sh (x3 + 3) = some (1, n2) ∧
        ((0 ≤ x4 ∧ x4 < (n2 : Int)) ∧
          ((0 ≤ (M (x3 + 3) x4) ∧ (M (x3 + 3) x4) < 120) ∧
            (∃ n5 : Nat, gsh sh (x3 + 1) = some (1, n5) ∧
              ((0 ≤ x4 ∧ x4 < (n5 : Int)) ∧
                (if (M (x3 + 1) x4) = 0 then
                  (P_X11_layRefs_111 sh Q x1 x2 x3 x4 (M (x3 + 3) x4) (M 395 (M (x3 + 3) x4)) 1 M)
                else
                  ((gsh sh x1 = some (0, 6) ∧ x1 < 758) ∧
                    (if (M x1 14) = 2 then
                      (P_X11_layRefs_111 sh Q x1 x2 x3 x4 (M (x3 + 3) x4) (M 395 (M (x3 + 3) x4)) 1 M)
                    else
                      (if (M x1 14) = 1 then
                        (if (M 396 (M (x3 + 3) x4)) = 0 then
                          (P_X11_layRefs_111 sh Q x1 x2 x3 x4 (M (x3 + 3) x4) (M 395 (M (x3 + 3) x4)) 1 M)
                        else
                          (P_X11_layRefs_111 sh Q x1 x2 x3 x4 (M (x3 + 3) x4) (M 395 (M (x3 + 3) x4)) 0 M))
                      else
                        (P_X11_layRefs_111 sh Q x1 x2 x3 x4 (M (x3 + 3) x4) (M 395 (M (x3 + 3) x4)) 0 M))))))))))
    else
      (Q none sh M)))) : P_X11_layRefs_37 sh Q x1 x2 x3 x4 M := by
  unfold P_X11_layRefs_37
  refine g_iload (q0 := 39) (j := 4) rfl dX11_layRefs_37 rfl ?_
  refine g_aload_n (q0 := 40) (j := 3) rfl dX11_layRefs_39 rfl ?_
  obtain ⟨g1, h⟩ := h
  refine g_getf (q0 := 43) (t := 0) (fi := 0) rfl rfl ff_X11_180 dX11_layRefs_40 rfl g1.1 ?_
  refine g_icmp_ge (q0 := 46) (tgt := 153) rfl dX11_layRefs_43 (by decide) (fun h43 => ?_) (fun h43 => ?_)
  · replace h := wI_neg (Int.not_lt.mpr h43) h
    exact g_return dX11_layRefs_153 rfl ⟨Nat.zero_le _, Nat.zero_le _⟩ h
  · replace h := wI_pos h43 h
    refine g_aload_n (q0 := 47) (j := 3) rfl dX11_layRefs_46 rfl ?_
    refine g_getp (q0 := 50) (b := (x3 + 3)) rfl ff_X11_230 dX11_layRefs_47 rfl hOK g1.2 g1.1 rfl rfl ?_
    refine g_iload (q0 := 52) (j := 4) rfl dX11_layRefs_50 rfl ?_
    obtain ⟨n2, sn2, h⟩ := h
    obtain ⟨g3, h⟩ := h
    refine g_iald (q0 := 53) rfl dX11_layRefs_52 sn2 g3.1 g3.2 ?_
    refine g_istore (q0 := 55) (j := 5) (lv2 := [_, _, _, _, _, _, _, _]) rfl dX11_layRefs_53 (by decide) rfl rfl ?_
    refine g_aload_n (q0 := 56) (j := 0) rfl dX11_layRefs_55 rfl ?_
    refine g_getp (q0 := 59) (b := 3) rfl ff_X11_19 dX11_layRefs_56 rfl hOK (by decide) (sh_0 hOK) rfl (by decide) ?_
    refine g_getp (q0 := 62) (b := 395) rfl ff_X11_214 dX11_layRefs_59 rfl hOK (by decide) (sh_3 hOK) rfl (by decide) ?_
    refine g_iload (q0 := 64) (j := 5) rfl dX11_layRefs_62 rfl ?_
    obtain ⟨g4, h⟩ := h
    refine g_iald (q0 := 65) rfl dX11_layRefs_64 (sh_395 hOK) g4.1 g4.2 ?_
    refine g_istore (q0 := 67) (j := 6) (lv2 := [_, _, _, _, _, _, _, _]) rfl dX11_layRefs_65 (by decide) rfl rfl ?_
    refine g_aload_n (q0 := 68) (j := 3) rfl dX11_layRefs_67 rfl ?_
    refine g_getp (q0 := 71) (b := (x3 + 1)) rfl ff_X11_232 dX11_layRefs_68 rfl hOK g1.2 g1.1 rfl rfl ?_
    refine g_iload (q0 := 73) (j := 4) rfl dX11_layRefs_71 rfl ?_
    obtain ⟨n5, sn5, h⟩ := h
    obtain ⟨g6, h⟩ := h
    refine g_iald (q0 := 74) rfl dX11_layRefs_73 sn5 g6.1 g6.2 ?_
    refine g_if_eq (q0 := 77) (tgt := 106) rfl dX11_layRefs_74 (by decide) (fun h74 => ?_) (fun h74 => ?_)
    · replace h := wI_pos h74 h
      refine g_iconst (q0 := 107) rfl dX11_layRefs_106 (k := ?_)
      refine g_goto (tgt := 111) dX11_layRefs_107 (by decide) ?_
      exact h
    · replace h := wI_neg h74 h
      refine g_aload_n (q0 := 78) (j := 1) rfl dX11_layRefs_77 rfl ?_
      obtain ⟨g7, h⟩ := h
      refine g_getf (q0 := 81) (t := 0) (fi := 14) rfl rfl ff_X11_235 dX11_layRefs_78 rfl g7.1 ?_
      refine g_iconst (q0 := 82) rfl dX11_layRefs_81 (k := ?_)
      refine g_icmp_eq (q0 := 85) (tgt := 106) rfl dX11_layRefs_82 (by decide) (fun h82 => ?_) (fun h82 => ?_)
      · replace h := wI_pos h82 h
        refine g_iconst (q0 := 107) rfl dX11_layRefs_106 (k := ?_)
        refine g_goto (tgt := 111) dX11_layRefs_107 (by decide) ?_
        exact h
      · replace h := wI_neg h82 h
        refine g_aload_n (q0 := 86) (j := 1) rfl dX11_layRefs_85 rfl ?_
        refine g_getf (q0 := 89) (t := 0) (fi := 14) rfl rfl ff_X11_235 dX11_layRefs_86 rfl g7.1 ?_
        refine g_iconst (q0 := 90) rfl dX11_layRefs_89 (k := ?_)
        refine g_icmp_ne (q0 := 93) (tgt := 110) rfl dX11_layRefs_90 (by decide) (fun h90 => ?_) (fun h90 => ?_)
        · replace h := wI_neg h90 h
          refine g_iconst (q0 := 111) rfl dX11_layRefs_110 (k := ?_)
          exact h
        · replace h := wI_pos h90 h
          refine g_aload_n (q0 := 94) (j := 0) rfl dX11_layRefs_93 rfl ?_
          refine g_getp (q0 := 97) (b := 3) rfl ff_X11_19 dX11_layRefs_94 rfl hOK (by decide) (sh_0 hOK) rfl (by decide) ?_
          refine g_getp (q0 := 100) (b := 396) rfl ff_X11_203 dX11_layRefs_97 rfl hOK (by decide) (sh_3 hOK) rfl (by decide) ?_
          refine g_iload (q0 := 102) (j := 5) rfl dX11_layRefs_100 rfl ?_
          refine g_iald (q0 := 103) rfl dX11_layRefs_102 (sh_396 hOK) g4.1 g4.2 ?_
          refine g_if_ne (q0 := 106) (tgt := 110) rfl dX11_layRefs_103 (by decide) (fun h103 => ?_) (fun h103 => ?_)
          · replace h := wI_neg h103 h
            refine g_iconst (q0 := 111) rfl dX11_layRefs_110 (k := ?_)
            exact h
          · replace h := wI_pos h103 h
            refine g_iconst (q0 := 107) rfl dX11_layRefs_106 (k := ?_)
            refine g_goto (tgt := 111) dX11_layRefs_107 (by decide) ?_
            exact h
theorem w_X11_layRefs_111 {sh : gS} {Q : Option gV → gS → gM → Prop} {x1 x2 x3 x4 x5 x6 s0 : Int} {M : gM} (hOK : gOK sh M) (h : (if s0 = 0 then
    (P_X11_layRefs_37 sh Q x1 x2 x3 (gw32 (x4 + 1)) M)
  else
    (if x6 < 0 then
      (P_X11_layRefs_37 sh Q x1 x2 x3 (gw32 (x4 + 1)) M)
    else
      ((gsh sh x3 = some (0, 8) ∧ x3 < 758) ∧
        (∃ n9 : Nat, gsh sh (x3 + 1) = some (1, n9) ∧
          ((0 ≤ x4 ∧ x4 < (n9 : Int)) ∧
            (∃ n11 : Nat, gsh sh (x3 + 2) = some (1, n11) ∧
              ((0 ≤ x4 ∧ x4 < (n11 : Int)) ∧
                (∃ P144 : Option gV → gM → Prop, gC (gr 2 45) yX7_lay cX7_lay 6 none [(4, 435), (0, (M (x3 + 1) x4)), (0, (M (x3 + 2) x4)), (0, x6), (0, x2)] sh M (gPm sh P144) ∧ ∀ (r144 : Option gV) (M144 : gM), P144 r144 M144 → r144 = none ∧ gOK sh M144 ∧
                  (P_X11_layRefs_37 sh Q x1 x2 x3 (gw32 (x4 + 1)) M144)))))))))) : P_X11_layRefs_111 sh Q x1 x2 x3 x4 x5 x6 s0 M := by
  unfold P_X11_layRefs_111
  refine g_istore (q0 := 113) (j := 7) (lv2 := [_, _, _, _, _, _, _, _]) rfl dX11_layRefs_111 (by decide) rfl rfl ?_
  refine g_iload (q0 := 115) (j := 7) rfl dX11_layRefs_113 rfl ?_
  refine g_if_eq (q0 := 118) (tgt := 147) rfl dX11_layRefs_115 (by decide) (fun h115 => ?_) (fun h115 => ?_)
  · replace h := wI_pos h115 h
    refine g_iincw (q0 := 150) (lv2 := [_, _, _, _, _, _, _, _]) rfl dX11_layRefs_147 rfl (by decide) rfl rfl ?_
    refine g_goto (tgt := 37) dX11_layRefs_150 (by decide) ?_
    refine gA_jk (lv1 := [_, _, _, _, _, (9, 0), (9, 0), (9, 0)]) ⟨.inl rfl, .inl rfl, .inl rfl, .inl rfl, .inl rfl, .inr rfl, .inr rfl, .inr rfl, trivial⟩ ?_
    exact h
  · replace h := wI_neg h115 h
    refine g_iload (q0 := 120) (j := 6) rfl dX11_layRefs_118 rfl ?_
    refine g_if_lt (q0 := 123) (tgt := 147) rfl dX11_layRefs_120 (by decide) (fun h120 => ?_) (fun h120 => ?_)
    · replace h := wI_pos h120 h
      refine g_iincw (q0 := 150) (lv2 := [_, _, _, _, _, _, _, _]) rfl dX11_layRefs_147 rfl (by decide) rfl rfl ?_
      refine g_goto (tgt := 37) dX11_layRefs_150 (by decide) ?_
      refine gA_jk (lv1 := [_, _, _, _, _, (9, 0), (9, 0), (9, 0)]) ⟨.inl rfl, .inl rfl, .inl rfl, .inl rfl, .inl rfl, .inr rfl, .inr rfl, .inr rfl, trivial⟩ ?_
      exact h
    · replace h := wI_neg (Int.not_lt.mpr h120) h
      refine g_aload_n (q0 := 124) (j := 0) rfl dX11_layRefs_123 rfl ?_
      refine g_getp (q0 := 127) (b := 435) rfl ff_X11_55 dX11_layRefs_124 rfl hOK (by decide) (sh_0 hOK) rfl (by decide) ?_
      refine g_aload_n (q0 := 128) (j := 3) rfl dX11_layRefs_127 rfl ?_
      obtain ⟨g8, h⟩ := h
      refine g_getp (q0 := 131) (b := (x3 + 1)) rfl ff_X11_232 dX11_layRefs_128 rfl hOK g8.2 g8.1 rfl rfl ?_
      refine g_iload (q0 := 133) (j := 4) rfl dX11_layRefs_131 rfl ?_
      obtain ⟨n9, sn9, h⟩ := h
      obtain ⟨g10, h⟩ := h
      refine g_iald (q0 := 134) rfl dX11_layRefs_133 sn9 g10.1 g10.2 ?_
      refine g_aload_n (q0 := 135) (j := 3) rfl dX11_layRefs_134 rfl ?_
      refine g_getp (q0 := 138) (b := (x3 + 2)) rfl ff_X11_238 dX11_layRefs_135 rfl hOK g8.2 g8.1 rfl rfl ?_
      refine g_iload (q0 := 140) (j := 4) rfl dX11_layRefs_138 rfl ?_
      obtain ⟨n11, sn11, h⟩ := h
      obtain ⟨g12, h⟩ := h
      refine g_iald (q0 := 141) rfl dX11_layRefs_140 sn11 g12.1 g12.2 ?_
      refine g_iload (q0 := 143) (j := 6) rfl dX11_layRefs_141 rfl ?_
      refine g_iload_n (q0 := 144) (j := 2) rfl dX11_layRefs_143 rfl ?_
      obtain ⟨P144, e144, h⟩ := h
      refine g_callVm (as := [_, _, _, _]) (rest := []) mt_X7_lay mi_X7_lay se_X7_lay ml_X11_181 dX11_layRefs_144 (q0 := 147) rfl rfl (sh_435 hOK) rfl rfl e144 rfl ⟨by decide, by decide⟩ (Nat.le_of_ble_eq_true rfl) ⟨Nat.zero_le _, Nat.zero_le _⟩ (fun r144 M144 hP144 hw144 hMw144 => ?_)
      obtain ⟨hr144, hOK13, h⟩ := h r144 M144 hP144
      subst hr144
      refine g_iincw (q0 := 150) (lv2 := [_, _, _, _, _, _, _, _]) rfl dX11_layRefs_147 rfl (by decide) rfl rfl ?_
      refine g_goto (tgt := 37) dX11_layRefs_150 (by decide) ?_
      refine gA_jk (lv1 := [_, _, _, _, _, (9, 0), (9, 0), (9, 0)]) ⟨.inl rfl, .inl rfl, .inl rfl, .inl rfl, .inl rfl, .inr rfl, .inr rfl, .inr rfl, trivial⟩ ?_
      exact h
theorem w_X11_layRefs {sh : gS} {Q : Option gV → gS → gM → Prop} {a1 a2 : Int} {M : gM} (hOK : gOK sh M) (h : ((gsh sh a1 = some (0, 6) ∧ a1 < 758) ∧
    ((0 ≤ (M a1 2) ∧ (M a1 2) < 4) ∧
      ((0 ≤ (M a1 3) ∧ (M a1 3) < 4) ∧
        (∃ P23 : Option gV → gM → Prop, gC (gr 1 23) yX7_copy cX7_copy 3 none [(4, 435), (4, (479 + 10 * (M a1 3)))] sh M (gPm sh P23) ∧ ∀ (r23 : Option gV) (M23 : gM), P23 r23 M23 → r23 = none ∧ gOK sh M23 ∧
          (∃ P31 : Option gV → gM → Prop, gC (gr 1 23) yX7_removeLaidBy cX7_removeLaidBy 4 none [(4, 435), (0, a2)] sh M23 (gPm sh P31) ∧ ∀ (r31 : Option gV) (M31 : gM), P31 r31 M31 → r31 = none ∧ gOK sh M31 ∧
            (P_X11_layRefs_37 sh Q a1 a2 (479 + 10 * (M a1 2)) 0 M31))))))) : gC (gr 3 70) yX11_layRefs cX11_layRefs 8 none [(4, 0), (4, a1), (0, a2)] sh M Q := by
  refine gC_ofA (lv := [_, _, _, _, _, _, _, _]) (by decide +kernel) (Nat.le_of_ble_eq_true rfl) rfl (fun hMw hav => ?_)
  refine g_aload_n (q0 := 1) (j := 0) rfl dX11_layRefs_0 rfl ?_
  refine g_getp (q0 := 4) (b := 408) rfl ff_X11_37 dX11_layRefs_1 rfl hOK (by decide) (sh_0 hOK) rfl (by decide) ?_
  refine g_aload_n (q0 := 5) (j := 1) rfl dX11_layRefs_4 rfl ?_
  obtain ⟨g14, h⟩ := h
  refine g_getf (q0 := 8) (t := 0) (fi := 2) rfl rfl ff_X11_193 dX11_layRefs_5 rfl g14.1 ?_
  obtain ⟨g15, h⟩ := h
  refine g_aald (q0 := 9) (q := 1) rfl dX11_layRefs_8 (sh_408 hOK) rfl g15.1 g15.2 ?_
  rw [(hOK.2.2.2 _ g15.1 g15.2).1]
  refine g_astore_n (q0 := 10) (j := 3) (lv2 := [_, _, _, _, _, _, _, _]) rfl dX11_layRefs_9 (by decide) rfl rfl ?_
  refine g_aload_n (q0 := 11) (j := 0) rfl dX11_layRefs_10 rfl ?_
  refine g_getp (q0 := 14) (b := 435) rfl ff_X11_55 dX11_layRefs_11 rfl hOK (by decide) (sh_0 hOK) rfl (by decide) ?_
  refine g_aload_n (q0 := 15) (j := 0) rfl dX11_layRefs_14 rfl ?_
  refine g_getp (q0 := 18) (b := 408) rfl ff_X11_37 dX11_layRefs_15 rfl hOK (by decide) (sh_0 hOK) rfl (by decide) ?_
  refine g_aload_n (q0 := 19) (j := 1) rfl dX11_layRefs_18 rfl ?_
  refine g_getf (q0 := 22) (t := 0) (fi := 3) rfl rfl ff_X11_221 dX11_layRefs_19 rfl g14.1 ?_
  obtain ⟨g16, h⟩ := h
  refine g_aald (q0 := 23) (q := 1) rfl dX11_layRefs_22 (sh_408 hOK) rfl g16.1 g16.2 ?_
  rw [(hOK.2.2.2 _ g16.1 g16.2).1]
  obtain ⟨P23, e23, h⟩ := h
  refine g_callVm (as := [_]) (rest := []) mt_X7_copy mi_X7_copy se_X7_copy ml_X11_224 dX11_layRefs_23 (q0 := 26) rfl rfl (sh_435 hOK) rfl rfl e23 rfl ⟨by decide, by decide⟩ (Nat.le_of_ble_eq_true rfl) ⟨Nat.zero_le _, Nat.zero_le _⟩ (fun r23 M23 hP23 hw23 hMw23 => ?_)
  obtain ⟨hr23, hOK17, h⟩ := h r23 M23 hP23
  subst hr23
  refine g_aload_n (q0 := 27) (j := 0) rfl dX11_layRefs_26 rfl ?_
  refine g_getp (q0 := 30) (b := 435) rfl ff_X11_55 dX11_layRefs_27 rfl hOK17 (by decide) (sh_0 hOK17) rfl (by decide) ?_
  refine g_iload_n (q0 := 31) (j := 2) rfl dX11_layRefs_30 rfl ?_
  obtain ⟨P31, e31, h⟩ := h
  refine g_callVm (as := [_]) (rest := []) mt_X7_removeLaidBy mi_X7_removeLaidBy se_X7_removeLaidBy ml_X11_227 dX11_layRefs_31 (q0 := 34) rfl rfl (sh_435 hOK17) rfl rfl e31 rfl ⟨by decide, by decide⟩ (Nat.le_of_ble_eq_true rfl) ⟨Nat.zero_le _, Nat.zero_le _⟩ (fun r31 M31 hP31 hw31 hMw31 => ?_)
  obtain ⟨hr31, hOK18, h⟩ := h r31 M31 hP31
  subst hr31
  refine g_iconst (q0 := 35) rfl dX11_layRefs_34 (k := ?_)
  refine g_istore (q0 := 37) (j := 4) (lv2 := [_, _, _, _, _, _, _, _]) rfl dX11_layRefs_35 (by decide) rfl rfl ?_
  exact h
-- ==== X11_join
theorem dX11_join_0 : decode cX11_join 0 = .ok (.iload_n 1, 1) := by decide +kernel
theorem dX11_join_1 : decode cX11_join 1 = .ok (.invokestatic 166, 3) := by decide +kernel
theorem dX11_join_4 : decode cX11_join 4 = .ok (.ifCond .eq 38, 3) := by decide +kernel
theorem dX11_join_7 : decode cX11_join 7 = .ok (.iload_n 2, 1) := by decide +kernel
theorem dX11_join_8 : decode cX11_join 8 = .ok (.invokestatic 169, 3) := by decide +kernel
theorem dX11_join_11 : decode cX11_join 11 = .ok (.ifCond .eq 31, 3) := by decide +kernel
theorem dX11_join_14 : decode cX11_join 14 = .ok (.iload_n 3, 1) := by decide +kernel
theorem dX11_join_15 : decode cX11_join 15 = .ok (.invokestatic 169, 3) := by decide +kernel
theorem dX11_join_18 : decode cX11_join 18 = .ok (.ifCond .eq 24, 3) := by decide +kernel
theorem dX11_join_21 : decode cX11_join 21 = .ok (.iload_n 2, 1) := by decide +kernel
theorem dX11_join_22 : decode cX11_join 22 = .ok (.iload_n 3, 1) := by decide +kernel
theorem dX11_join_23 : decode cX11_join 23 = .ok (.if_icmp .eq 19, 3) := by decide +kernel
theorem dX11_join_26 : decode cX11_join 26 = .ok (.iload 4, 2) := by decide +kernel
theorem dX11_join_28 : decode cX11_join 28 = .ok (.invokestatic 109, 3) := by decide +kernel
theorem dX11_join_31 : decode cX11_join 31 = .ok (.ifCond .eq 11, 3) := by decide +kernel
theorem dX11_join_34 : decode cX11_join 34 = .ok (.iload 5, 2) := by decide +kernel
theorem dX11_join_36 : decode cX11_join 36 = .ok (.invokestatic 113, 3) := by decide +kernel
theorem dX11_join_39 : decode cX11_join 39 = .ok (.ifCond .ne 5, 3) := by decide +kernel
theorem dX11_join_42 : decode cX11_join 42 = .ok (.iconst (-1), 1) := by decide +kernel
theorem dX11_join_43 : decode cX11_join 43 = .ok (.ireturn, 1) := by decide +kernel
theorem dX11_join_44 : decode cX11_join 44 = .ok (.aload_n 0, 1) := by decide +kernel
theorem dX11_join_45 : decode cX11_join 45 = .ok (.getfield 37, 3) := by decide +kernel
theorem dX11_join_48 : decode cX11_join 48 = .ok (.iload_n 1, 1) := by decide +kernel
theorem dX11_join_49 : decode cX11_join 49 = .ok (.aaload, 1) := by decide +kernel
theorem dX11_join_50 : decode cX11_join 50 = .ok (.astore 6, 2) := by decide +kernel
theorem dX11_join_52 : decode cX11_join 52 = .ok (.aload 6, 2) := by decide +kernel
theorem dX11_join_54 : decode cX11_join 54 = .ok (.iload_n 2, 1) := by decide +kernel
theorem dX11_join_55 : decode cX11_join 55 = .ok (.invokevirtual 241, 3) := by decide +kernel
theorem dX11_join_58 : decode cX11_join 58 = .ok (.istore 7, 2) := by decide +kernel
theorem dX11_join_60 : decode cX11_join 60 = .ok (.aload 6, 2) := by decide +kernel
theorem dX11_join_62 : decode cX11_join 62 = .ok (.iload_n 3, 1) := by decide +kernel
theorem dX11_join_63 : decode cX11_join 63 = .ok (.invokevirtual 241, 3) := by decide +kernel
theorem dX11_join_66 : decode cX11_join 66 = .ok (.istore 8, 2) := by decide +kernel
theorem dX11_join_68 : decode cX11_join 68 = .ok (.iload 7, 2) := by decide +kernel
theorem dX11_join_70 : decode cX11_join 70 = .ok (.ifCond .lt 8, 3) := by decide +kernel
theorem dX11_join_73 : decode cX11_join 73 = .ok (.iload 8, 2) := by decide +kernel
theorem dX11_join_75 : decode cX11_join 75 = .ok (.ifCond .ge 6, 3) := by decide +kernel
theorem dX11_join_78 : decode cX11_join 78 = .ok (.bipush (-4), 2) := by decide +kernel
theorem dX11_join_80 : decode cX11_join 80 = .ok (.ireturn, 1) := by decide +kernel
theorem dX11_join_81 : decode cX11_join 81 = .ok (.iload 7, 2) := by decide +kernel
theorem dX11_join_83 : decode cX11_join 83 = .ok (.iload 8, 2) := by decide +kernel
theorem dX11_join_85 : decode cX11_join 85 = .ok (.if_icmp .eq 31, 3) := by decide +kernel
theorem dX11_join_88 : decode cX11_join 88 = .ok (.aload_n 0, 1) := by decide +kernel
theorem dX11_join_89 : decode cX11_join 89 = .ok (.getfield 27, 3) := by decide +kernel
theorem dX11_join_92 : decode cX11_join 92 = .ok (.iload 7, 2) := by decide +kernel
theorem dX11_join_94 : decode cX11_join 94 = .ok (.iload 8, 2) := by decide +kernel
theorem dX11_join_96 : decode cX11_join 96 = .ok (.invokevirtual 244, 3) := by decide +kernel
theorem dX11_join_99 : decode cX11_join 99 = .ok (.ifCond .ne 17, 3) := by decide +kernel
theorem dX11_join_102 : decode cX11_join 102 = .ok (.aload_n 0, 1) := by decide +kernel
theorem dX11_join_103 : decode cX11_join 103 = .ok (.getfield 27, 3) := by decide +kernel
theorem dX11_join_106 : decode cX11_join 106 = .ok (.iload 8, 2) := by decide +kernel
theorem dX11_join_108 : decode cX11_join 108 = .ok (.iload 7, 2) := by decide +kernel
theorem dX11_join_110 : decode cX11_join 110 = .ok (.invokevirtual 244, 3) := by decide +kernel
theorem dX11_join_113 : decode cX11_join 113 = .ok (.ifCond .eq 6, 3) := by decide +kernel
theorem dX11_join_116 : decode cX11_join 116 = .ok (.bipush (-7), 2) := by decide +kernel
theorem dX11_join_118 : decode cX11_join 118 = .ok (.ireturn, 1) := by decide +kernel
theorem dX11_join_119 : decode cX11_join 119 = .ok (.aload_n 0, 1) := by decide +kernel
theorem dX11_join_120 : decode cX11_join 120 = .ok (.getfield 31, 3) := by decide +kernel
theorem dX11_join_123 : decode cX11_join 123 = .ok (.iload 4, 2) := by decide +kernel
theorem dX11_join_125 : decode cX11_join 125 = .ok (.iload 5, 2) := by decide +kernel
theorem dX11_join_127 : decode cX11_join 127 = .ok (.invokevirtual 248, 3) := by decide +kernel
theorem dX11_join_130 : decode cX11_join 130 = .ok (.aload_n 0, 1) := by decide +kernel
theorem dX11_join_131 : decode cX11_join 131 = .ok (.getfield 31, 3) := by decide +kernel
theorem dX11_join_134 : decode cX11_join 134 = .ok (.iload 7, 2) := by decide +kernel
theorem dX11_join_136 : decode cX11_join 136 = .ok (.invokevirtual 250, 3) := by decide +kernel
theorem dX11_join_139 : decode cX11_join 139 = .ok (.aload_n 0, 1) := by decide +kernel
theorem dX11_join_140 : decode cX11_join 140 = .ok (.getfield 31, 3) := by decide +kernel
theorem dX11_join_143 : decode cX11_join 143 = .ok (.iload 8, 2) := by decide +kernel
theorem dX11_join_145 : decode cX11_join 145 = .ok (.invokevirtual 250, 3) := by decide +kernel
theorem dX11_join_148 : decode cX11_join 148 = .ok (.aload_n 0, 1) := by decide +kernel
theorem dX11_join_149 : decode cX11_join 149 = .ok (.getfield 31, 3) := by decide +kernel
theorem dX11_join_152 : decode cX11_join 152 = .ok (.getfield 253, 3) := by decide +kernel
theorem dX11_join_155 : decode cX11_join 155 = .ok (.aload_n 0, 1) := by decide +kernel
theorem dX11_join_156 : decode cX11_join 156 = .ok (.getfield 27, 3) := by decide +kernel
theorem dX11_join_159 : decode cX11_join 159 = .ok (.iload 7, 2) := by decide +kernel
theorem dX11_join_161 : decode cX11_join 161 = .ok (.invokevirtual 155, 3) := by decide +kernel
theorem dX11_join_164 : decode cX11_join 164 = .ok (.invokevirtual 256, 3) := by decide +kernel
theorem dX11_join_167 : decode cX11_join 167 = .ok (.aload_n 0, 1) := by decide +kernel
theorem dX11_join_168 : decode cX11_join 168 = .ok (.getfield 31, 3) := by decide +kernel
theorem dX11_join_171 : decode cX11_join 171 = .ok (.getfield 253, 3) := by decide +kernel
theorem dX11_join_174 : decode cX11_join 174 = .ok (.aload_n 0, 1) := by decide +kernel
theorem dX11_join_175 : decode cX11_join 175 = .ok (.getfield 27, 3) := by decide +kernel
theorem dX11_join_178 : decode cX11_join 178 = .ok (.iload 8, 2) := by decide +kernel
theorem dX11_join_180 : decode cX11_join 180 = .ok (.invokevirtual 155, 3) := by decide +kernel
theorem dX11_join_183 : decode cX11_join 183 = .ok (.invokevirtual 259, 3) := by decide +kernel
theorem dX11_join_186 : decode cX11_join 186 = .ok (.ifCond .eq 16, 3) := by decide +kernel
theorem dX11_join_189 : decode cX11_join 189 = .ok (.aload_n 0, 1) := by decide +kernel
theorem dX11_join_190 : decode cX11_join 190 = .ok (.getfield 31, 3) := by decide +kernel
theorem dX11_join_193 : decode cX11_join 193 = .ok (.getfield 253, 3) := by decide +kernel
theorem dX11_join_196 : decode cX11_join 196 = .ok (.invokevirtual 263, 3) := by decide +kernel
theorem dX11_join_199 : decode cX11_join 199 = .ok (.ifCond .eq 6, 3) := by decide +kernel
theorem dX11_join_202 : decode cX11_join 202 = .ok (.bipush (-6), 2) := by decide +kernel
theorem dX11_join_204 : decode cX11_join 204 = .ok (.ireturn, 1) := by decide +kernel
theorem dX11_join_205 : decode cX11_join 205 = .ok (.aload_n 0, 1) := by decide +kernel
theorem dX11_join_206 : decode cX11_join 206 = .ok (.getfield 31, 3) := by decide +kernel
theorem dX11_join_209 : decode cX11_join 209 = .ok (.getfield 253, 3) := by decide +kernel
theorem dX11_join_212 : decode cX11_join 212 = .ok (.getfield 159, 3) := by decide +kernel
theorem dX11_join_215 : decode cX11_join 215 = .ok (.bipush 16, 2) := by decide +kernel
theorem dX11_join_217 : decode cX11_join 217 = .ok (.if_icmp .le 6, 3) := by decide +kernel
theorem dX11_join_220 : decode cX11_join 220 = .ok (.bipush (-5), 2) := by decide +kernel
theorem dX11_join_222 : decode cX11_join 222 = .ok (.ireturn, 1) := by decide +kernel
theorem dX11_join_223 : decode cX11_join 223 = .ok (.aload_n 0, 1) := by decide +kernel
theorem dX11_join_224 : decode cX11_join 224 = .ok (.aload 6, 2) := by decide +kernel
theorem dX11_join_226 : decode cX11_join 226 = .ok (.iload_n 2, 1) := by decide +kernel
theorem dX11_join_227 : decode cX11_join 227 = .ok (.invokevirtual 267, 3) := by decide +kernel
theorem dX11_join_230 : decode cX11_join 230 = .ok (.ireturn, 1) := by decide +kernel
theorem w_X11_join {sh : gS} {Q : Option gV → gS → gM → Prop} {a1 a2 a3 a4 a5 : Int} {M : gM} (hOK : gOK sh M) (h : (∃ v1 : Int, gC (gr 0 0) yX11_isHistory cX11_isHistory 1 (some (.boolean)) [(0, a1)] sh M (gPp sh M (0, v1)) ∧
    (if v1 = 0 then
      (Q (some (0, -1)) sh M)
    else
      (∃ v8 : Int, gC (gr 0 0) yX11_isLetter cX11_isLetter 1 (some (.boolean)) [(0, a2)] sh M (gPp sh M (0, v8)) ∧
        (if v8 = 0 then
          (Q (some (0, -1)) sh M)
        else
          (∃ v15 : Int, gC (gr 0 0) yX11_isLetter cX11_isLetter 1 (some (.boolean)) [(0, a3)] sh M (gPp sh M (0, v15)) ∧
            (if v15 = 0 then
              (Q (some (0, -1)) sh M)
            else
              (if a2 = a3 then
                (Q (some (0, -1)) sh M)
              else
                (∃ v28 : Int, gC (gr 0 0) yX11_isWho cX11_isWho 1 (some (.boolean)) [(0, a4)] sh M (gPp sh M (0, v28)) ∧
                  (if v28 = 0 then
                    (Q (some (0, -1)) sh M)
                  else
                    (∃ v36 : Int, gC (gr 0 0) yX11_isHour cX11_isHour 1 (some (.boolean)) [(0, a5)] sh M (gPp sh M (0, v36)) ∧
                      (if v36 = 0 then
                        (Q (some (0, -1)) sh M)
                      else
                        ((0 ≤ a1 ∧ a1 < 4) ∧
                          ((gsh sh (479 + 10 * a1) = some (0, 8) ∧ (479 + 10 * a1) < 758) ∧
                            (∃ v55 : Int, gC (gr 1 23) yX7_branch cX7_branch 3 (some (.int)) [(4, (479 + 10 * a1)), (0, a2)] sh M (gPp sh M (0, v55)) ∧
                              (∃ v63 : Int, gC (gr 1 23) yX7_branch cX7_branch 3 (some (.int)) [(4, (479 + 10 * a1)), (0, a3)] sh M (gPp sh M (0, v63)) ∧
                                (if v55 < 0 then
                                  (Q (some (0, -4)) sh M)
                                else
                                  (if v63 < 0 then
                                    (Q (some (0, -4)) sh M)
                                  else
                                    (if v55 = v63 then
                                      (Q (some (0, -7)) sh M)
                                    else
                                      (∃ v96 : Int, gC (gr 1 22) yX1_isAbove cX1_isAbove 3 (some (.boolean)) [(4, 4), (0, v55), (0, v63)] sh M (gPp sh M (0, v96)) ∧
                                        (if v96 = 0 then
                                          (∃ v110 : Int, gC (gr 1 22) yX1_isAbove cX1_isAbove 3 (some (.boolean)) [(4, 4), (0, v63), (0, v55)] sh M (gPp sh M (0, v110)) ∧
                                            (if v110 = 0 then
                                              (∃ P127 : Option gV → gM → Prop, gC (gr 0 0) yX2_begin cX2_begin 3 none [(4, 399), (0, a4), (0, a5)] sh M (gPm sh P127) ∧ ∀ (r127 : Option gV) (M127 : gM), P127 r127 M127 → r127 = none ∧ gOK sh M127 ∧
                                                (∃ P136 : Option gV → gM → Prop, gC (gr 0 0) yX2_addParent cX2_addParent 2 none [(4, 399), (0, v55)] sh M127 (gPm sh P136) ∧ ∀ (r136 : Option gV) (M136 : gM), P136 r136 M136 → r136 = none ∧ gOK sh M136 ∧
                                                  (∃ P145 : Option gV → gM → Prop, gC (gr 0 0) yX2_addParent cX2_addParent 2 none [(4, 399), (0, v63)] sh M136 (gPm sh P145) ∧ ∀ (r145 : Option gV) (M145 : gM), P145 r145 M145 → r145 = none ∧ gOK sh M145 ∧
                                                    (∃ v161 : Int, gC (gr 0 0) yX1_tree cX1_tree 2 (some (.object "CarriedHistory$Tree")) [(4, 4), (0, v55)] sh M145 (gPp sh M145 (4, v161)) ∧
                                                      (∃ P164 : Option gV → gM → Prop, gC (gr 1 68) yX10_copy cX10_copy 2 none [(4, 401), (4, v161)] sh M145 (gPm sh P164) ∧ ∀ (r164 : Option gV) (M164 : gM), P164 r164 M164 → r164 = none ∧ gOK sh M164 ∧
                                                        (∃ v180 : Int, gC (gr 0 0) yX1_tree cX1_tree 2 (some (.object "CarriedHistory$Tree")) [(4, 4), (0, v63)] sh M164 (gPp sh M164 (4, v180)) ∧
                                                          (∃ P183 : Option gV → gM → Prop, gC (gr 2 44) yX10_takeAll cX10_takeAll 4 (some (.boolean)) [(4, 401), (4, v180)] sh M164 (gPm sh P183) ∧ ∀ (r183 : Option gV) (M183 : gM), P183 r183 M183 → ∃ v183 : Int, r183 = some (0, v183) ∧ gOK sh M183 ∧
                                                            (if v183 = 0 then
                                                              (Q (some (0, -6)) sh M183)
                                                            else
                                                              (∃ v196 : Int, gC (gr 1 23) yX10_clashes cX10_clashes 2 (some (.boolean)) [(4, 401)] sh M183 (gPp sh M183 (0, v196)) ∧
                                                                (if v196 = 0 then
                                                                  (if (16 : Int) < (M183 401 2) then
                                                                    (Q (some (0, -5)) sh M183)
                                                                  else
                                                                    (∃ P227 : Option gV → gM → Prop, gC (gr 4 137) yX11_settleOn cX11_settleOn 4 (some (.int)) [(4, 0), (4, (479 + 10 * a1)), (0, a2)] sh M183 (gPm sh P227) ∧ ∀ (r227 : Option gV) (M227 : gM), P227 r227 M227 → ∃ v227 : Int, r227 = some (0, v227) ∧ gOK sh M227 ∧
                                                                      (Q (some (0, v227)) sh M227)))
                                                                else
                                                                  (Q (some (0, -6)) sh M183)))))))))))
                                            else
                                              (Q (some (0, -7)) sh M)))
                                        else
                                          (Q (some (0, -7)) sh M)))))))))))))))))))))) : gC (gr 5 160) yX11_join cX11_join 9 (some (.int)) [(4, 0), (0, a1), (0, a2), (0, a3), (0, a4), (0, a5)] sh M Q := by
  refine gC_ofA (lv := [_, _, _, _, _, _, _, _, _]) (by decide +kernel) (Nat.le_of_ble_eq_true rfl) rfl (fun hMw hav => ?_)
  refine g_iload_n (q0 := 1) (j := 1) rfl dX11_join_0 rfl ?_
  obtain ⟨v1, e1, h⟩ := h
  refine g_callSp (as := [_]) (rest := []) mt_X11_isHistory ms_X11_isHistory ml_X11_166 dX11_join_1 (q0 := 4) rfl rfl e1 rfl ⟨by decide, by decide⟩ (Nat.le_of_ble_eq_true rfl) ⟨Nat.zero_le _, Nat.zero_le _⟩ (fun _ => ?_)
  refine g_if_eq (q0 := 7) (tgt := 42) rfl dX11_join_4 (by decide) (fun h4 => ?_) (fun h4 => ?_)
  · replace h := wI_pos h4 h
    refine g_iconst (q0 := 43) rfl dX11_join_42 (k := ?_)
    exact g_ireturn dX11_join_43 rfl ⟨Nat.zero_le _, Nat.zero_le _⟩ h
  · replace h := wI_neg h4 h
    refine g_iload_n (q0 := 8) (j := 2) rfl dX11_join_7 rfl ?_
    obtain ⟨v8, e8, h⟩ := h
    refine g_callSp (as := [_]) (rest := []) mt_X11_isLetter ms_X11_isLetter ml_X11_169 dX11_join_8 (q0 := 11) rfl rfl e8 rfl ⟨by decide, by decide⟩ (Nat.le_of_ble_eq_true rfl) ⟨Nat.zero_le _, Nat.zero_le _⟩ (fun _ => ?_)
    refine g_if_eq (q0 := 14) (tgt := 42) rfl dX11_join_11 (by decide) (fun h11 => ?_) (fun h11 => ?_)
    · replace h := wI_pos h11 h
      refine g_iconst (q0 := 43) rfl dX11_join_42 (k := ?_)
      exact g_ireturn dX11_join_43 rfl ⟨Nat.zero_le _, Nat.zero_le _⟩ h
    · replace h := wI_neg h11 h
      refine g_iload_n (q0 := 15) (j := 3) rfl dX11_join_14 rfl ?_
      obtain ⟨v15, e15, h⟩ := h
      refine g_callSp (as := [_]) (rest := []) mt_X11_isLetter ms_X11_isLetter ml_X11_169 dX11_join_15 (q0 := 18) rfl rfl e15 rfl ⟨by decide, by decide⟩ (Nat.le_of_ble_eq_true rfl) ⟨Nat.zero_le _, Nat.zero_le _⟩ (fun _ => ?_)
      refine g_if_eq (q0 := 21) (tgt := 42) rfl dX11_join_18 (by decide) (fun h18 => ?_) (fun h18 => ?_)
      · replace h := wI_pos h18 h
        refine g_iconst (q0 := 43) rfl dX11_join_42 (k := ?_)
        exact g_ireturn dX11_join_43 rfl ⟨Nat.zero_le _, Nat.zero_le _⟩ h
      · replace h := wI_neg h18 h
        refine g_iload_n (q0 := 22) (j := 2) rfl dX11_join_21 rfl ?_
        refine g_iload_n (q0 := 23) (j := 3) rfl dX11_join_22 rfl ?_
        refine g_icmp_eq (q0 := 26) (tgt := 42) rfl dX11_join_23 (by decide) (fun h23 => ?_) (fun h23 => ?_)
        · replace h := wI_pos h23 h
          refine g_iconst (q0 := 43) rfl dX11_join_42 (k := ?_)
          exact g_ireturn dX11_join_43 rfl ⟨Nat.zero_le _, Nat.zero_le _⟩ h
        · replace h := wI_neg h23 h
          refine g_iload (q0 := 28) (j := 4) rfl dX11_join_26 rfl ?_
          obtain ⟨v28, e28, h⟩ := h
          refine g_callSp (as := [_]) (rest := []) mt_X11_isWho ms_X11_isWho ml_X11_109 dX11_join_28 (q0 := 31) rfl rfl e28 rfl ⟨by decide, by decide⟩ (Nat.le_of_ble_eq_true rfl) ⟨Nat.zero_le _, Nat.zero_le _⟩ (fun _ => ?_)
          refine g_if_eq (q0 := 34) (tgt := 42) rfl dX11_join_31 (by decide) (fun h31 => ?_) (fun h31 => ?_)
          · replace h := wI_pos h31 h
            refine g_iconst (q0 := 43) rfl dX11_join_42 (k := ?_)
            exact g_ireturn dX11_join_43 rfl ⟨Nat.zero_le _, Nat.zero_le _⟩ h
          · replace h := wI_neg h31 h
            refine g_iload (q0 := 36) (j := 5) rfl dX11_join_34 rfl ?_
            obtain ⟨v36, e36, h⟩ := h
            refine g_callSp (as := [_]) (rest := []) mt_X11_isHour ms_X11_isHour ml_X11_113 dX11_join_36 (q0 := 39) rfl rfl e36 rfl ⟨by decide, by decide⟩ (Nat.le_of_ble_eq_true rfl) ⟨Nat.zero_le _, Nat.zero_le _⟩ (fun _ => ?_)
            refine g_if_ne (q0 := 42) (tgt := 44) rfl dX11_join_39 (by decide) (fun h39 => ?_) (fun h39 => ?_)
            · replace h := wI_neg h39 h
              refine g_aload_n (q0 := 45) (j := 0) rfl dX11_join_44 rfl ?_
              refine g_getp (q0 := 48) (b := 408) rfl ff_X11_37 dX11_join_45 rfl hOK (by decide) (sh_0 hOK) rfl (by decide) ?_
              refine g_iload_n (q0 := 49) (j := 1) rfl dX11_join_48 rfl ?_
              obtain ⟨g1, h⟩ := h
              refine g_aald (q0 := 50) (q := 1) rfl dX11_join_49 (sh_408 hOK) rfl g1.1 g1.2 ?_
              rw [(hOK.2.2.2 _ g1.1 g1.2).1]
              refine g_astore (q0 := 52) (j := 6) (lv2 := [_, _, _, _, _, _, _, _, _]) rfl dX11_join_50 (by decide) rfl rfl ?_
              refine g_aload (q0 := 54) (j := 6) rfl dX11_join_52 rfl ?_
              refine g_iload_n (q0 := 55) (j := 2) rfl dX11_join_54 rfl ?_
              obtain ⟨g2, h⟩ := h
              obtain ⟨v55, e55, h⟩ := h
              refine g_callVp (as := [_]) (rest := []) mt_X7_branch mi_X7_branch se_X7_branch ml_X11_241 dX11_join_55 (q0 := 58) rfl rfl g2.1 rfl rfl e55 rfl ⟨by decide, by decide⟩ (Nat.le_of_ble_eq_true rfl) ⟨Nat.zero_le _, Nat.zero_le _⟩ (fun _ => ?_)
              refine g_istore (q0 := 60) (j := 7) (lv2 := [_, _, _, _, _, _, _, _, _]) rfl dX11_join_58 (by decide) rfl rfl ?_
              refine g_aload (q0 := 62) (j := 6) rfl dX11_join_60 rfl ?_
              refine g_iload_n (q0 := 63) (j := 3) rfl dX11_join_62 rfl ?_
              obtain ⟨v63, e63, h⟩ := h
              refine g_callVp (as := [_]) (rest := []) mt_X7_branch mi_X7_branch se_X7_branch ml_X11_241 dX11_join_63 (q0 := 66) rfl rfl g2.1 rfl rfl e63 rfl ⟨by decide, by decide⟩ (Nat.le_of_ble_eq_true rfl) ⟨Nat.zero_le _, Nat.zero_le _⟩ (fun _ => ?_)
              refine g_istore (q0 := 68) (j := 8) (lv2 := [_, _, _, _, _, _, _, _, _]) rfl dX11_join_66 (by decide) rfl rfl ?_
              refine g_iload (q0 := 70) (j := 7) rfl dX11_join_68 rfl ?_
              refine g_if_lt (q0 := 73) (tgt := 78) rfl dX11_join_70 (by decide) (fun h70 => ?_) (fun h70 => ?_)
              · replace h := wI_pos h70 h
                refine g_bipush (q0 := 80) rfl dX11_join_78 (k := ?_)
                exact g_ireturn dX11_join_80 rfl ⟨Nat.zero_le _, Nat.zero_le _⟩ h
              · replace h := wI_neg (Int.not_lt.mpr h70) h
                refine g_iload (q0 := 75) (j := 8) rfl dX11_join_73 rfl ?_
                refine g_if_ge (q0 := 78) (tgt := 81) rfl dX11_join_75 (by decide) (fun h75 => ?_) (fun h75 => ?_)
                · replace h := wI_neg (Int.not_lt.mpr h75) h
                  refine g_iload (q0 := 83) (j := 7) rfl dX11_join_81 rfl ?_
                  refine g_iload (q0 := 85) (j := 8) rfl dX11_join_83 rfl ?_
                  refine g_icmp_eq (q0 := 88) (tgt := 116) rfl dX11_join_85 (by decide) (fun h85 => ?_) (fun h85 => ?_)
                  · replace h := wI_pos h85 h
                    refine g_bipush (q0 := 118) rfl dX11_join_116 (k := ?_)
                    exact g_ireturn dX11_join_118 rfl ⟨Nat.zero_le _, Nat.zero_le _⟩ h
                  · replace h := wI_neg h85 h
                    refine g_aload_n (q0 := 89) (j := 0) rfl dX11_join_88 rfl ?_
                    refine g_getp (q0 := 92) (b := 4) rfl ff_X11_27 dX11_join_89 rfl hOK (by decide) (sh_0 hOK) rfl (by decide) ?_
                    refine g_iload (q0 := 94) (j := 7) rfl dX11_join_92 rfl ?_
                    refine g_iload (q0 := 96) (j := 8) rfl dX11_join_94 rfl ?_
                    obtain ⟨v96, e96, h⟩ := h
                    refine g_callVp (as := [_, _]) (rest := []) mt_X1_isAbove mi_X1_isAbove se_X1_isAbove ml_X11_244 dX11_join_96 (q0 := 99) rfl rfl (sh_4 hOK) rfl rfl e96 rfl ⟨by decide, by decide⟩ (Nat.le_of_ble_eq_true rfl) ⟨Nat.zero_le _, Nat.zero_le _⟩ (fun _ => ?_)
                    refine g_if_ne (q0 := 102) (tgt := 116) rfl dX11_join_99 (by decide) (fun h99 => ?_) (fun h99 => ?_)
                    · replace h := wI_neg h99 h
                      refine g_bipush (q0 := 118) rfl dX11_join_116 (k := ?_)
                      exact g_ireturn dX11_join_118 rfl ⟨Nat.zero_le _, Nat.zero_le _⟩ h
                    · replace h := wI_pos h99 h
                      refine g_aload_n (q0 := 103) (j := 0) rfl dX11_join_102 rfl ?_
                      refine g_getp (q0 := 106) (b := 4) rfl ff_X11_27 dX11_join_103 rfl hOK (by decide) (sh_0 hOK) rfl (by decide) ?_
                      refine g_iload (q0 := 108) (j := 8) rfl dX11_join_106 rfl ?_
                      refine g_iload (q0 := 110) (j := 7) rfl dX11_join_108 rfl ?_
                      obtain ⟨v110, e110, h⟩ := h
                      refine g_callVp (as := [_, _]) (rest := []) mt_X1_isAbove mi_X1_isAbove se_X1_isAbove ml_X11_244 dX11_join_110 (q0 := 113) rfl rfl (sh_4 hOK) rfl rfl e110 rfl ⟨by decide, by decide⟩ (Nat.le_of_ble_eq_true rfl) ⟨Nat.zero_le _, Nat.zero_le _⟩ (fun _ => ?_)
                      refine g_if_eq (q0 := 116) (tgt := 119) rfl dX11_join_113 (by decide) (fun h113 => ?_) (fun h113 => ?_)
                      · replace h := wI_pos h113 h
                        refine g_aload_n (q0 := 120) (j := 0) rfl dX11_join_119 rfl ?_
                        refine g_getp (q0 := 123) (b := 399) rfl ff_X11_31 dX11_join_120 rfl hOK (by decide) (sh_0 hOK) rfl (by decide) ?_
                        refine g_iload (q0 := 125) (j := 4) rfl dX11_join_123 rfl ?_
                        refine g_iload (q0 := 127) (j := 5) rfl dX11_join_125 rfl ?_
                        obtain ⟨P127, e127, h⟩ := h
                        refine g_callVm (as := [_, _]) (rest := []) mt_X2_begin mi_X2_begin se_X2_begin ml_X11_248 dX11_join_127 (q0 := 130) rfl rfl (sh_399 hOK) rfl rfl e127 rfl ⟨by decide, by decide⟩ (Nat.le_of_ble_eq_true rfl) ⟨Nat.zero_le _, Nat.zero_le _⟩ (fun r127 M127 hP127 hw127 hMw127 => ?_)
                        obtain ⟨hr127, hOK3, h⟩ := h r127 M127 hP127
                        subst hr127
                        refine g_aload_n (q0 := 131) (j := 0) rfl dX11_join_130 rfl ?_
                        refine g_getp (q0 := 134) (b := 399) rfl ff_X11_31 dX11_join_131 rfl hOK3 (by decide) (sh_0 hOK3) rfl (by decide) ?_
                        refine g_iload (q0 := 136) (j := 7) rfl dX11_join_134 rfl ?_
                        obtain ⟨P136, e136, h⟩ := h
                        refine g_callVm (as := [_]) (rest := []) mt_X2_addParent mi_X2_addParent se_X2_addParent ml_X11_250 dX11_join_136 (q0 := 139) rfl rfl (sh_399 hOK3) rfl rfl e136 rfl ⟨by decide, by decide⟩ (Nat.le_of_ble_eq_true rfl) ⟨Nat.zero_le _, Nat.zero_le _⟩ (fun r136 M136 hP136 hw136 hMw136 => ?_)
                        obtain ⟨hr136, hOK4, h⟩ := h r136 M136 hP136
                        subst hr136
                        refine g_aload_n (q0 := 140) (j := 0) rfl dX11_join_139 rfl ?_
                        refine g_getp (q0 := 143) (b := 399) rfl ff_X11_31 dX11_join_140 rfl hOK4 (by decide) (sh_0 hOK4) rfl (by decide) ?_
                        refine g_iload (q0 := 145) (j := 8) rfl dX11_join_143 rfl ?_
                        obtain ⟨P145, e145, h⟩ := h
                        refine g_callVm (as := [_]) (rest := []) mt_X2_addParent mi_X2_addParent se_X2_addParent ml_X11_250 dX11_join_145 (q0 := 148) rfl rfl (sh_399 hOK4) rfl rfl e145 rfl ⟨by decide, by decide⟩ (Nat.le_of_ble_eq_true rfl) ⟨Nat.zero_le _, Nat.zero_le _⟩ (fun r145 M145 hP145 hw145 hMw145 => ?_)
                        obtain ⟨hr145, hOK5, h⟩ := h r145 M145 hP145
                        subst hr145
                        refine g_aload_n (q0 := 149) (j := 0) rfl dX11_join_148 rfl ?_
                        refine g_getp (q0 := 152) (b := 399) rfl ff_X11_31 dX11_join_149 rfl hOK5 (by decide) (sh_0 hOK5) rfl (by decide) ?_
                        refine g_getp (q0 := 155) (b := 401) rfl ff_X11_253 dX11_join_152 rfl hOK5 (by decide) (sh_399 hOK5) rfl (by decide) ?_
                        refine g_aload_n (q0 := 156) (j := 0) rfl dX11_join_155 rfl ?_
                        refine g_getp (q0 := 159) (b := 4) rfl ff_X11_27 dX11_join_156 rfl hOK5 (by decide) (sh_0 hOK5) rfl (by decide) ?_
                        refine g_iload (q0 := 161) (j := 7) rfl dX11_join_159 rfl ?_
                        obtain ⟨v161, e161, h⟩ := h
                        refine g_callVp (as := [_]) (rest := [_]) mt_X1_tree mi_X1_tree se_X1_tree ml_X11_155 dX11_join_161 (q0 := 164) rfl rfl (sh_4 hOK5) rfl rfl e161 rfl ⟨by decide, by decide⟩ (Nat.le_of_ble_eq_true rfl) ⟨Nat.zero_le _, Nat.zero_le _⟩ (fun _ => ?_)
                        obtain ⟨P164, e164, h⟩ := h
                        refine g_callVm (as := [_]) (rest := []) mt_X10_copy mi_X10_copy se_X10_copy ml_X11_256 dX11_join_164 (q0 := 167) rfl rfl (sh_401 hOK5) rfl rfl e164 rfl ⟨by decide, by decide⟩ (Nat.le_of_ble_eq_true rfl) ⟨Nat.zero_le _, Nat.zero_le _⟩ (fun r164 M164 hP164 hw164 hMw164 => ?_)
                        obtain ⟨hr164, hOK6, h⟩ := h r164 M164 hP164
                        subst hr164
                        refine g_aload_n (q0 := 168) (j := 0) rfl dX11_join_167 rfl ?_
                        refine g_getp (q0 := 171) (b := 399) rfl ff_X11_31 dX11_join_168 rfl hOK6 (by decide) (sh_0 hOK6) rfl (by decide) ?_
                        refine g_getp (q0 := 174) (b := 401) rfl ff_X11_253 dX11_join_171 rfl hOK6 (by decide) (sh_399 hOK6) rfl (by decide) ?_
                        refine g_aload_n (q0 := 175) (j := 0) rfl dX11_join_174 rfl ?_
                        refine g_getp (q0 := 178) (b := 4) rfl ff_X11_27 dX11_join_175 rfl hOK6 (by decide) (sh_0 hOK6) rfl (by decide) ?_
                        refine g_iload (q0 := 180) (j := 8) rfl dX11_join_178 rfl ?_
                        obtain ⟨v180, e180, h⟩ := h
                        refine g_callVp (as := [_]) (rest := [_]) mt_X1_tree mi_X1_tree se_X1_tree ml_X11_155 dX11_join_180 (q0 := 183) rfl rfl (sh_4 hOK6) rfl rfl e180 rfl ⟨by decide, by decide⟩ (Nat.le_of_ble_eq_true rfl) ⟨Nat.zero_le _, Nat.zero_le _⟩ (fun _ => ?_)
                        obtain ⟨P183, e183, h⟩ := h
                        refine g_callVm (as := [_]) (rest := []) mt_X10_takeAll mi_X10_takeAll se_X10_takeAll ml_X11_259 dX11_join_183 (q0 := 186) rfl rfl (sh_401 hOK6) rfl rfl e183 rfl ⟨by decide, by decide⟩ (Nat.le_of_ble_eq_true rfl) ⟨Nat.zero_le _, Nat.zero_le _⟩ (fun r183 M183 hP183 hw183 hMw183 => ?_)
                        obtain ⟨v183, hr183, hOK7, h⟩ := h r183 M183 hP183
                        subst hr183
                        refine g_if_eq (q0 := 189) (tgt := 202) rfl dX11_join_186 (by decide) (fun h186 => ?_) (fun h186 => ?_)
                        · replace h := wI_pos h186 h
                          refine g_bipush (q0 := 204) rfl dX11_join_202 (k := ?_)
                          exact g_ireturn dX11_join_204 rfl ⟨Nat.zero_le _, Nat.zero_le _⟩ h
                        · replace h := wI_neg h186 h
                          refine g_aload_n (q0 := 190) (j := 0) rfl dX11_join_189 rfl ?_
                          refine g_getp (q0 := 193) (b := 399) rfl ff_X11_31 dX11_join_190 rfl hOK7 (by decide) (sh_0 hOK7) rfl (by decide) ?_
                          refine g_getp (q0 := 196) (b := 401) rfl ff_X11_253 dX11_join_193 rfl hOK7 (by decide) (sh_399 hOK7) rfl (by decide) ?_
                          obtain ⟨v196, e196, h⟩ := h
                          refine g_callVp (as := []) (rest := []) mt_X10_clashes mi_X10_clashes se_X10_clashes ml_X11_263 dX11_join_196 (q0 := 199) rfl rfl (sh_401 hOK7) rfl rfl e196 rfl ⟨by decide, by decide⟩ (Nat.le_of_ble_eq_true rfl) ⟨Nat.zero_le _, Nat.zero_le _⟩ (fun _ => ?_)
                          refine g_if_eq (q0 := 202) (tgt := 205) rfl dX11_join_199 (by decide) (fun h199 => ?_) (fun h199 => ?_)
                          · replace h := wI_pos h199 h
                            refine g_aload_n (q0 := 206) (j := 0) rfl dX11_join_205 rfl ?_
                            refine g_getp (q0 := 209) (b := 399) rfl ff_X11_31 dX11_join_206 rfl hOK7 (by decide) (sh_0 hOK7) rfl (by decide) ?_
                            refine g_getp (q0 := 212) (b := 401) rfl ff_X11_253 dX11_join_209 rfl hOK7 (by decide) (sh_399 hOK7) rfl (by decide) ?_
                            refine g_getf (q0 := 215) (t := 0) (fi := 2) rfl rfl ff_X11_159 dX11_join_212 rfl (sh_401 hOK7) ?_
                            refine g_bipush (q0 := 217) rfl dX11_join_215 (k := ?_)
                            refine g_icmp_le (q0 := 220) (tgt := 223) rfl dX11_join_217 (by decide) (fun h217 => ?_) (fun h217 => ?_)
                            · replace h := wI_neg (Int.not_lt.mpr h217) h
                              refine g_aload_n (q0 := 224) (j := 0) rfl dX11_join_223 rfl ?_
                              refine g_aload (q0 := 226) (j := 6) rfl dX11_join_224 rfl ?_
                              refine g_iload_n (q0 := 227) (j := 2) rfl dX11_join_226 rfl ?_
                              obtain ⟨P227, e227, h⟩ := h
                              refine g_callVm (as := [_, _]) (rest := []) mt_X11_settleOn mi_X11_settleOn se_X11_settleOn ml_X11_267 dX11_join_227 (q0 := 230) rfl rfl (sh_0 hOK7) rfl rfl e227 rfl ⟨by decide, by decide⟩ (Nat.le_of_ble_eq_true rfl) ⟨Nat.zero_le _, Nat.zero_le _⟩ (fun r227 M227 hP227 hw227 hMw227 => ?_)
                              obtain ⟨v227, hr227, hOK8, h⟩ := h r227 M227 hP227
                              subst hr227
                              exact g_ireturn dX11_join_230 rfl ⟨Nat.zero_le _, Nat.zero_le _⟩ h
                            · replace h := wI_pos h217 h
                              refine g_bipush (q0 := 222) rfl dX11_join_220 (k := ?_)
                              exact g_ireturn dX11_join_222 rfl ⟨Nat.zero_le _, Nat.zero_le _⟩ h
                          · replace h := wI_neg h199 h
                            refine g_bipush (q0 := 204) rfl dX11_join_202 (k := ?_)
                            exact g_ireturn dX11_join_204 rfl ⟨Nat.zero_le _, Nat.zero_le _⟩ h
                      · replace h := wI_neg h113 h
                        refine g_bipush (q0 := 118) rfl dX11_join_116 (k := ?_)
                        exact g_ireturn dX11_join_118 rfl ⟨Nat.zero_le _, Nat.zero_le _⟩ h
                · replace h := wI_pos h75 h
                  refine g_bipush (q0 := 80) rfl dX11_join_78 (k := ?_)
                  exact g_ireturn dX11_join_80 rfl ⟨Nat.zero_le _, Nat.zero_le _⟩ h
            · replace h := wI_pos h39 h
              refine g_iconst (q0 := 43) rfl dX11_join_42 (k := ?_)
              exact g_ireturn dX11_join_43 rfl ⟨Nat.zero_le _, Nat.zero_le _⟩ h
-- ==== X11_replay
theorem dX11_replay_0 : decode cX11_replay 0 = .ok (.iload_n 1, 1) := by decide +kernel
theorem dX11_replay_1 : decode cX11_replay 1 = .ok (.invokestatic 166, 3) := by decide +kernel
theorem dX11_replay_4 : decode cX11_replay 4 = .ok (.ifCond .eq 21, 3) := by decide +kernel
theorem dX11_replay_7 : decode cX11_replay 7 = .ok (.iload_n 2, 1) := by decide +kernel
theorem dX11_replay_8 : decode cX11_replay 8 = .ok (.invokestatic 169, 3) := by decide +kernel
theorem dX11_replay_11 : decode cX11_replay 11 = .ok (.ifCond .eq 14, 3) := by decide +kernel
theorem dX11_replay_14 : decode cX11_replay 14 = .ok (.aload_n 0, 1) := by decide +kernel
theorem dX11_replay_15 : decode cX11_replay 15 = .ok (.getfield 27, 3) := by decide +kernel
theorem dX11_replay_18 : decode cX11_replay 18 = .ok (.iload_n 3, 1) := by decide +kernel
theorem dX11_replay_19 : decode cX11_replay 19 = .ok (.invokevirtual 152, 3) := by decide +kernel
theorem dX11_replay_22 : decode cX11_replay 22 = .ok (.ifCond .ne 5, 3) := by decide +kernel
theorem dX11_replay_25 : decode cX11_replay 25 = .ok (.iconst (-1), 1) := by decide +kernel
theorem dX11_replay_26 : decode cX11_replay 26 = .ok (.ireturn, 1) := by decide +kernel
theorem dX11_replay_27 : decode cX11_replay 27 = .ok (.aload_n 0, 1) := by decide +kernel
theorem dX11_replay_28 : decode cX11_replay 28 = .ok (.getfield 37, 3) := by decide +kernel
theorem dX11_replay_31 : decode cX11_replay 31 = .ok (.iload_n 1, 1) := by decide +kernel
theorem dX11_replay_32 : decode cX11_replay 32 = .ok (.aaload, 1) := by decide +kernel
theorem dX11_replay_33 : decode cX11_replay 33 = .ok (.astore 4, 2) := by decide +kernel
theorem dX11_replay_35 : decode cX11_replay 35 = .ok (.aload 4, 2) := by decide +kernel
theorem dX11_replay_37 : decode cX11_replay 37 = .ok (.iload_n 2, 1) := by decide +kernel
theorem dX11_replay_38 : decode cX11_replay 38 = .ok (.invokevirtual 241, 3) := by decide +kernel
theorem dX11_replay_41 : decode cX11_replay 41 = .ok (.istore 5, 2) := by decide +kernel
theorem dX11_replay_43 : decode cX11_replay 43 = .ok (.iload 5, 2) := by decide +kernel
theorem dX11_replay_45 : decode cX11_replay 45 = .ok (.ifCond .ge 6, 3) := by decide +kernel
theorem dX11_replay_48 : decode cX11_replay 48 = .ok (.bipush (-4), 2) := by decide +kernel
theorem dX11_replay_50 : decode cX11_replay 50 = .ok (.ireturn, 1) := by decide +kernel
theorem dX11_replay_51 : decode cX11_replay 51 = .ok (.aload_n 0, 1) := by decide +kernel
theorem dX11_replay_52 : decode cX11_replay 52 = .ok (.getfield 62, 3) := by decide +kernel
theorem dX11_replay_55 : decode cX11_replay 55 = .ok (.aload_n 0, 1) := by decide +kernel
theorem dX11_replay_56 : decode cX11_replay 56 = .ok (.getfield 27, 3) := by decide +kernel
theorem dX11_replay_59 : decode cX11_replay 59 = .ok (.iload_n 3, 1) := by decide +kernel
theorem dX11_replay_60 : decode cX11_replay 60 = .ok (.invokevirtual 271, 3) := by decide +kernel
theorem dX11_replay_63 : decode cX11_replay 63 = .ok (.aload_n 0, 1) := by decide +kernel
theorem dX11_replay_64 : decode cX11_replay 64 = .ok (.getfield 27, 3) := by decide +kernel
theorem dX11_replay_67 : decode cX11_replay 67 = .ok (.iload_n 3, 1) := by decide +kernel
theorem dX11_replay_68 : decode cX11_replay 68 = .ok (.invokevirtual 155, 3) := by decide +kernel
theorem dX11_replay_71 : decode cX11_replay 71 = .ok (.invokevirtual 274, 3) := by decide +kernel
theorem dX11_replay_74 : decode cX11_replay 74 = .ok (.aload_n 0, 1) := by decide +kernel
theorem dX11_replay_75 : decode cX11_replay 75 = .ok (.getfield 31, 3) := by decide +kernel
theorem dX11_replay_78 : decode cX11_replay 78 = .ok (.aload_n 0, 1) := by decide +kernel
theorem dX11_replay_79 : decode cX11_replay 79 = .ok (.getfield 27, 3) := by decide +kernel
theorem dX11_replay_82 : decode cX11_replay 82 = .ok (.getfield 278, 3) := by decide +kernel
theorem dX11_replay_85 : decode cX11_replay 85 = .ok (.iload_n 3, 1) := by decide +kernel
theorem dX11_replay_86 : decode cX11_replay 86 = .ok (.iaload, 1) := by decide +kernel
theorem dX11_replay_87 : decode cX11_replay 87 = .ok (.aload_n 0, 1) := by decide +kernel
theorem dX11_replay_88 : decode cX11_replay 88 = .ok (.getfield 27, 3) := by decide +kernel
theorem dX11_replay_91 : decode cX11_replay 91 = .ok (.getfield 280, 3) := by decide +kernel
theorem dX11_replay_94 : decode cX11_replay 94 = .ok (.iload_n 3, 1) := by decide +kernel
theorem dX11_replay_95 : decode cX11_replay 95 = .ok (.iaload, 1) := by decide +kernel
theorem dX11_replay_96 : decode cX11_replay 96 = .ok (.invokevirtual 248, 3) := by decide +kernel
theorem dX11_replay_99 : decode cX11_replay 99 = .ok (.aload_n 0, 1) := by decide +kernel
theorem dX11_replay_100 : decode cX11_replay 100 = .ok (.getfield 31, 3) := by decide +kernel
theorem dX11_replay_103 : decode cX11_replay 103 = .ok (.iload 5, 2) := by decide +kernel
theorem dX11_replay_105 : decode cX11_replay 105 = .ok (.invokevirtual 250, 3) := by decide +kernel
theorem dX11_replay_108 : decode cX11_replay 108 = .ok (.aload_n 0, 1) := by decide +kernel
theorem dX11_replay_109 : decode cX11_replay 109 = .ok (.getfield 31, 3) := by decide +kernel
theorem dX11_replay_112 : decode cX11_replay 112 = .ok (.aload_n 0, 1) := by decide +kernel
theorem dX11_replay_113 : decode cX11_replay 113 = .ok (.getfield 27, 3) := by decide +kernel
theorem dX11_replay_116 : decode cX11_replay 116 = .ok (.iload_n 3, 1) := by decide +kernel
theorem dX11_replay_117 : decode cX11_replay 117 = .ok (.invokevirtual 282, 3) := by decide +kernel
theorem dX11_replay_120 : decode cX11_replay 120 = .ok (.aload_n 0, 1) := by decide +kernel
theorem dX11_replay_121 : decode cX11_replay 121 = .ok (.getfield 31, 3) := by decide +kernel
theorem dX11_replay_124 : decode cX11_replay 124 = .ok (.getfield 253, 3) := by decide +kernel
theorem dX11_replay_127 : decode cX11_replay 127 = .ok (.aload_n 0, 1) := by decide +kernel
theorem dX11_replay_128 : decode cX11_replay 128 = .ok (.getfield 27, 3) := by decide +kernel
theorem dX11_replay_131 : decode cX11_replay 131 = .ok (.iload 5, 2) := by decide +kernel
theorem dX11_replay_133 : decode cX11_replay 133 = .ok (.invokevirtual 155, 3) := by decide +kernel
theorem dX11_replay_136 : decode cX11_replay 136 = .ok (.invokevirtual 256, 3) := by decide +kernel
theorem dX11_replay_139 : decode cX11_replay 139 = .ok (.aload_n 0, 1) := by decide +kernel
theorem dX11_replay_140 : decode cX11_replay 140 = .ok (.getfield 62, 3) := by decide +kernel
theorem dX11_replay_143 : decode cX11_replay 143 = .ok (.aload_n 0, 1) := by decide +kernel
theorem dX11_replay_144 : decode cX11_replay 144 = .ok (.getfield 31, 3) := by decide +kernel
theorem dX11_replay_147 : decode cX11_replay 147 = .ok (.getfield 253, 3) := by decide +kernel
theorem dX11_replay_150 : decode cX11_replay 150 = .ok (.invokevirtual 286, 3) := by decide +kernel
theorem dX11_replay_153 : decode cX11_replay 153 = .ok (.ifCond .ne 6, 3) := by decide +kernel
theorem dX11_replay_156 : decode cX11_replay 156 = .ok (.bipush (-6), 2) := by decide +kernel
theorem dX11_replay_158 : decode cX11_replay 158 = .ok (.ireturn, 1) := by decide +kernel
theorem dX11_replay_159 : decode cX11_replay 159 = .ok (.aload_n 0, 1) := by decide +kernel
theorem dX11_replay_160 : decode cX11_replay 160 = .ok (.getfield 62, 3) := by decide +kernel
theorem dX11_replay_163 : decode cX11_replay 163 = .ok (.aload_n 0, 1) := by decide +kernel
theorem dX11_replay_164 : decode cX11_replay 164 = .ok (.getfield 31, 3) := by decide +kernel
theorem dX11_replay_167 : decode cX11_replay 167 = .ok (.getfield 253, 3) := by decide +kernel
theorem dX11_replay_170 : decode cX11_replay 170 = .ok (.invokevirtual 289, 3) := by decide +kernel
theorem dX11_replay_173 : decode cX11_replay 173 = .ok (.aload_n 0, 1) := by decide +kernel
theorem dX11_replay_174 : decode cX11_replay 174 = .ok (.getfield 31, 3) := by decide +kernel
theorem dX11_replay_177 : decode cX11_replay 177 = .ok (.getfield 253, 3) := by decide +kernel
theorem dX11_replay_180 : decode cX11_replay 180 = .ok (.invokevirtual 263, 3) := by decide +kernel
theorem dX11_replay_183 : decode cX11_replay 183 = .ok (.ifCond .eq 6, 3) := by decide +kernel
theorem dX11_replay_186 : decode cX11_replay 186 = .ok (.bipush (-6), 2) := by decide +kernel
theorem dX11_replay_188 : decode cX11_replay 188 = .ok (.ireturn, 1) := by decide +kernel
theorem dX11_replay_189 : decode cX11_replay 189 = .ok (.aload_n 0, 1) := by decide +kernel
theorem dX11_replay_190 : decode cX11_replay 190 = .ok (.getfield 31, 3) := by decide +kernel
theorem dX11_replay_193 : decode cX11_replay 193 = .ok (.getfield 253, 3) := by decide +kernel
theorem dX11_replay_196 : decode cX11_replay 196 = .ok (.getfield 159, 3) := by decide +kernel
theorem dX11_replay_199 : decode cX11_replay 199 = .ok (.bipush 16, 2) := by decide +kernel
theorem dX11_replay_201 : decode cX11_replay 201 = .ok (.if_icmp .le 6, 3) := by decide +kernel
theorem dX11_replay_204 : decode cX11_replay 204 = .ok (.bipush (-5), 2) := by decide +kernel
theorem dX11_replay_206 : decode cX11_replay 206 = .ok (.ireturn, 1) := by decide +kernel
theorem dX11_replay_207 : decode cX11_replay 207 = .ok (.aload_n 0, 1) := by decide +kernel
theorem dX11_replay_208 : decode cX11_replay 208 = .ok (.getfield 31, 3) := by decide +kernel
theorem dX11_replay_211 : decode cX11_replay 211 = .ok (.getfield 253, 3) := by decide +kernel
theorem dX11_replay_214 : decode cX11_replay 214 = .ok (.aload_n 0, 1) := by decide +kernel
theorem dX11_replay_215 : decode cX11_replay 215 = .ok (.getfield 27, 3) := by decide +kernel
theorem dX11_replay_218 : decode cX11_replay 218 = .ok (.iload 5, 2) := by decide +kernel
theorem dX11_replay_220 : decode cX11_replay 220 = .ok (.invokevirtual 155, 3) := by decide +kernel
theorem dX11_replay_223 : decode cX11_replay 223 = .ok (.invokevirtual 292, 3) := by decide +kernel
theorem dX11_replay_226 : decode cX11_replay 226 = .ok (.ifCond .eq 8, 3) := by decide +kernel
theorem dX11_replay_229 : decode cX11_replay 229 = .ok (.bipush (-8), 2) := by decide +kernel
theorem dX11_replay_231 : decode cX11_replay 231 = .ok (.goto 10, 3) := by decide +kernel
theorem dX11_replay_234 : decode cX11_replay 234 = .ok (.aload_n 0, 1) := by decide +kernel
theorem dX11_replay_235 : decode cX11_replay 235 = .ok (.aload 4, 2) := by decide +kernel
theorem dX11_replay_237 : decode cX11_replay 237 = .ok (.iload_n 2, 1) := by decide +kernel
theorem dX11_replay_238 : decode cX11_replay 238 = .ok (.invokevirtual 267, 3) := by decide +kernel
theorem dX11_replay_241 : decode cX11_replay 241 = .ok (.ireturn, 1) := by decide +kernel
theorem w_X11_replay {sh : gS} {Q : Option gV → gS → gM → Prop} {a1 a2 a3 : Int} {M : gM} (hOK : gOK sh M) (h : (∃ v1 : Int, gC (gr 0 0) yX11_isHistory cX11_isHistory 1 (some (.boolean)) [(0, a1)] sh M (gPp sh M (0, v1)) ∧
    (if v1 = 0 then
      (Q (some (0, -1)) sh M)
    else
      (∃ v8 : Int, gC (gr 0 0) yX11_isLetter cX11_isLetter 1 (some (.boolean)) [(0, a2)] sh M (gPp sh M (0, v8)) ∧
        (if v8 = 0 then
          (Q (some (0, -1)) sh M)
        else
          (∃ v19 : Int, gC (gr 0 0) yX1_has cX1_has 2 (some (.boolean)) [(4, 4), (0, a3)] sh M (gPp sh M (0, v19)) ∧
            (if v19 = 0 then
              (Q (some (0, -1)) sh M)
            else
              ((0 ≤ a1 ∧ a1 < 4) ∧
                ((gsh sh (479 + 10 * a1) = some (0, 8) ∧ (479 + 10 * a1) < 758) ∧
                  (∃ v38 : Int, gC (gr 1 23) yX7_branch cX7_branch 3 (some (.int)) [(4, (479 + 10 * a1)), (0, a2)] sh M (gPp sh M (0, v38)) ∧
                    (if v38 < 0 then
                      (Q (some (0, -4)) sh M)
                    else
                      (∃ v60 : Int, gC (gr 1 22) yX1_firstTree cX1_firstTree 2 (some (.object "CarriedHistory$Tree")) [(4, 4), (0, a3)] sh M (gPp sh M (4, v60)) ∧
                        (∃ v68 : Int, gC (gr 0 0) yX1_tree cX1_tree 2 (some (.object "CarriedHistory$Tree")) [(4, 4), (0, a3)] sh M (gPp sh M (4, v68)) ∧
                          (∃ P71 : Option gV → gM → Prop, gC (gr 1 25) yX0_measure cX0_measure 10 none [(4, 440), (4, v60), (4, v68)] sh M (gPm sh P71) ∧ ∀ (r71 : Option gV) (M71 : gM), P71 r71 M71 → r71 = none ∧ gOK sh M71 ∧
                            ((0 ≤ a3 ∧ a3 < 120) ∧
                              (∃ P96 : Option gV → gM → Prop, gC (gr 0 0) yX2_begin cX2_begin 3 none [(4, 399), (0, (M71 11 a3)), (0, (M71 12 a3))] sh M71 (gPm sh P96) ∧ ∀ (r96 : Option gV) (M96 : gM), P96 r96 M96 → r96 = none ∧ gOK sh M96 ∧
                                (∃ P105 : Option gV → gM → Prop, gC (gr 0 0) yX2_addParent cX2_addParent 2 none [(4, 399), (0, v38)] sh M96 (gPm sh P105) ∧ ∀ (r105 : Option gV) (M105 : gM), P105 r105 M105 → r105 = none ∧ gOK sh M105 ∧
                                  (∃ P117 : Option gV → gM → Prop, gC (gr 1 22) yX2_takeMessage cX2_takeMessage 4 none [(4, 399), (4, 4), (0, a3)] sh M105 (gPm sh P117) ∧ ∀ (r117 : Option gV) (M117 : gM), P117 r117 M117 → r117 = none ∧ gOK sh M117 ∧
                                    (∃ v133 : Int, gC (gr 0 0) yX1_tree cX1_tree 2 (some (.object "CarriedHistory$Tree")) [(4, 4), (0, v38)] sh M117 (gPp sh M117 (4, v133)) ∧
                                      (∃ P136 : Option gV → gM → Prop, gC (gr 1 68) yX10_copy cX10_copy 2 none [(4, 401), (4, v133)] sh M117 (gPm sh P136) ∧ ∀ (r136 : Option gV) (M136 : gM), P136 r136 M136 → r136 = none ∧ gOK sh M136 ∧
                                        (∃ v150 : Int, gC (gr 2 44) yX0_fits cX0_fits 4 (some (.boolean)) [(4, 440), (4, 401)] sh M136 (gPp sh M136 (0, v150)) ∧
                                          (if v150 = 0 then
                                            (Q (some (0, -6)) sh M136)
                                          else
                                            (∃ P170 : Option gV → gM → Prop, gC (gr 1 24) yX0_apply cX0_apply 3 none [(4, 440), (4, 401)] sh M136 (gPm sh P170) ∧ ∀ (r170 : Option gV) (M170 : gM), P170 r170 M170 → r170 = none ∧ gOK sh M170 ∧
                                              (∃ v180 : Int, gC (gr 1 23) yX10_clashes cX10_clashes 2 (some (.boolean)) [(4, 401)] sh M170 (gPp sh M170 (0, v180)) ∧
                                                (if v180 = 0 then
                                                  (if (16 : Int) < (M170 401 2) then
                                                    (Q (some (0, -5)) sh M170)
                                                  else
                                                    (∃ v220 : Int, gC (gr 0 0) yX1_tree cX1_tree 2 (some (.object "CarriedHistory$Tree")) [(4, 4), (0, v38)] sh M170 (gPp sh M170 (4, v220)) ∧
                                                      (∃ v223 : Int, gC (gr 0 0) yX10_isLike cX10_isLike 3 (some (.boolean)) [(4, 401), (4, v220)] sh M170 (gPp sh M170 (0, v223)) ∧
                                                        (if v223 = 0 then
                                                          (∃ P238 : Option gV → gM → Prop, gC (gr 4 137) yX11_settleOn cX11_settleOn 4 (some (.int)) [(4, 0), (4, (479 + 10 * a1)), (0, a2)] sh M170 (gPm sh P238) ∧ ∀ (r238 : Option gV) (M238 : gM), P238 r238 M238 → ∃ v238 : Int, r238 = some (0, v238) ∧ gOK sh M238 ∧
                                                            (Q (some (0, v238)) sh M238))
                                                        else
                                                          (Q (some (0, -8)) sh M170)))))
                                                else
                                                  (Q (some (0, -6)) sh M170)))))))))))))))))))))))))) : gC (gr 5 160) yX11_replay cX11_replay 6 (some (.int)) [(4, 0), (0, a1), (0, a2), (0, a3)] sh M Q := by
  refine gC_ofA (lv := [_, _, _, _, _, _]) (by decide +kernel) (Nat.le_of_ble_eq_true rfl) rfl (fun hMw hav => ?_)
  refine g_iload_n (q0 := 1) (j := 1) rfl dX11_replay_0 rfl ?_
  obtain ⟨v1, e1, h⟩ := h
  refine g_callSp (as := [_]) (rest := []) mt_X11_isHistory ms_X11_isHistory ml_X11_166 dX11_replay_1 (q0 := 4) rfl rfl e1 rfl ⟨by decide, by decide⟩ (Nat.le_of_ble_eq_true rfl) ⟨Nat.zero_le _, Nat.zero_le _⟩ (fun _ => ?_)
  refine g_if_eq (q0 := 7) (tgt := 25) rfl dX11_replay_4 (by decide) (fun h4 => ?_) (fun h4 => ?_)
  · replace h := wI_pos h4 h
    refine g_iconst (q0 := 26) rfl dX11_replay_25 (k := ?_)
    exact g_ireturn dX11_replay_26 rfl ⟨Nat.zero_le _, Nat.zero_le _⟩ h
  · replace h := wI_neg h4 h
    refine g_iload_n (q0 := 8) (j := 2) rfl dX11_replay_7 rfl ?_
    obtain ⟨v8, e8, h⟩ := h
    refine g_callSp (as := [_]) (rest := []) mt_X11_isLetter ms_X11_isLetter ml_X11_169 dX11_replay_8 (q0 := 11) rfl rfl e8 rfl ⟨by decide, by decide⟩ (Nat.le_of_ble_eq_true rfl) ⟨Nat.zero_le _, Nat.zero_le _⟩ (fun _ => ?_)
    refine g_if_eq (q0 := 14) (tgt := 25) rfl dX11_replay_11 (by decide) (fun h11 => ?_) (fun h11 => ?_)
    · replace h := wI_pos h11 h
      refine g_iconst (q0 := 26) rfl dX11_replay_25 (k := ?_)
      exact g_ireturn dX11_replay_26 rfl ⟨Nat.zero_le _, Nat.zero_le _⟩ h
    · replace h := wI_neg h11 h
      refine g_aload_n (q0 := 15) (j := 0) rfl dX11_replay_14 rfl ?_
      refine g_getp (q0 := 18) (b := 4) rfl ff_X11_27 dX11_replay_15 rfl hOK (by decide) (sh_0 hOK) rfl (by decide) ?_
      refine g_iload_n (q0 := 19) (j := 3) rfl dX11_replay_18 rfl ?_
      obtain ⟨v19, e19, h⟩ := h
      refine g_callVp (as := [_]) (rest := []) mt_X1_has mi_X1_has se_X1_has ml_X11_152 dX11_replay_19 (q0 := 22) rfl rfl (sh_4 hOK) rfl rfl e19 rfl ⟨by decide, by decide⟩ (Nat.le_of_ble_eq_true rfl) ⟨Nat.zero_le _, Nat.zero_le _⟩ (fun _ => ?_)
      refine g_if_ne (q0 := 25) (tgt := 27) rfl dX11_replay_22 (by decide) (fun h22 => ?_) (fun h22 => ?_)
      · replace h := wI_neg h22 h
        refine g_aload_n (q0 := 28) (j := 0) rfl dX11_replay_27 rfl ?_
        refine g_getp (q0 := 31) (b := 408) rfl ff_X11_37 dX11_replay_28 rfl hOK (by decide) (sh_0 hOK) rfl (by decide) ?_
        refine g_iload_n (q0 := 32) (j := 1) rfl dX11_replay_31 rfl ?_
        obtain ⟨g1, h⟩ := h
        refine g_aald (q0 := 33) (q := 1) rfl dX11_replay_32 (sh_408 hOK) rfl g1.1 g1.2 ?_
        rw [(hOK.2.2.2 _ g1.1 g1.2).1]
        refine g_astore (q0 := 35) (j := 4) (lv2 := [_, _, _, _, _, _]) rfl dX11_replay_33 (by decide) rfl rfl ?_
        refine g_aload (q0 := 37) (j := 4) rfl dX11_replay_35 rfl ?_
        refine g_iload_n (q0 := 38) (j := 2) rfl dX11_replay_37 rfl ?_
        obtain ⟨g2, h⟩ := h
        obtain ⟨v38, e38, h⟩ := h
        refine g_callVp (as := [_]) (rest := []) mt_X7_branch mi_X7_branch se_X7_branch ml_X11_241 dX11_replay_38 (q0 := 41) rfl rfl g2.1 rfl rfl e38 rfl ⟨by decide, by decide⟩ (Nat.le_of_ble_eq_true rfl) ⟨Nat.zero_le _, Nat.zero_le _⟩ (fun _ => ?_)
        refine g_istore (q0 := 43) (j := 5) (lv2 := [_, _, _, _, _, _]) rfl dX11_replay_41 (by decide) rfl rfl ?_
        refine g_iload (q0 := 45) (j := 5) rfl dX11_replay_43 rfl ?_
        refine g_if_ge (q0 := 48) (tgt := 51) rfl dX11_replay_45 (by decide) (fun h45 => ?_) (fun h45 => ?_)
        · replace h := wI_neg (Int.not_lt.mpr h45) h
          refine g_aload_n (q0 := 52) (j := 0) rfl dX11_replay_51 rfl ?_
          refine g_getp (q0 := 55) (b := 440) rfl ff_X11_62 dX11_replay_52 rfl hOK (by decide) (sh_0 hOK) rfl (by decide) ?_
          refine g_aload_n (q0 := 56) (j := 0) rfl dX11_replay_55 rfl ?_
          refine g_getp (q0 := 59) (b := 4) rfl ff_X11_27 dX11_replay_56 rfl hOK (by decide) (sh_0 hOK) rfl (by decide) ?_
          refine g_iload_n (q0 := 60) (j := 3) rfl dX11_replay_59 rfl ?_
          obtain ⟨v60, e60, h⟩ := h
          refine g_callVp (as := [_]) (rest := [_]) mt_X1_firstTree mi_X1_firstTree se_X1_firstTree ml_X11_271 dX11_replay_60 (q0 := 63) rfl rfl (sh_4 hOK) rfl rfl e60 rfl ⟨by decide, by decide⟩ (Nat.le_of_ble_eq_true rfl) ⟨Nat.zero_le _, Nat.zero_le _⟩ (fun _ => ?_)
          refine g_aload_n (q0 := 64) (j := 0) rfl dX11_replay_63 rfl ?_
          refine g_getp (q0 := 67) (b := 4) rfl ff_X11_27 dX11_replay_64 rfl hOK (by decide) (sh_0 hOK) rfl (by decide) ?_
          refine g_iload_n (q0 := 68) (j := 3) rfl dX11_replay_67 rfl ?_
          obtain ⟨v68, e68, h⟩ := h
          refine g_callVp (as := [_]) (rest := [_, _]) mt_X1_tree mi_X1_tree se_X1_tree ml_X11_155 dX11_replay_68 (q0 := 71) rfl rfl (sh_4 hOK) rfl rfl e68 rfl ⟨by decide, by decide⟩ (Nat.le_of_ble_eq_true rfl) ⟨Nat.zero_le _, Nat.zero_le _⟩ (fun _ => ?_)
          obtain ⟨P71, e71, h⟩ := h
          refine g_callVm (as := [_, _]) (rest := []) mt_X0_measure mi_X0_measure se_X0_measure ml_X11_274 dX11_replay_71 (q0 := 74) rfl rfl (sh_440 hOK) rfl rfl e71 rfl ⟨by decide, by decide⟩ (Nat.le_of_ble_eq_true rfl) ⟨Nat.zero_le _, Nat.zero_le _⟩ (fun r71 M71 hP71 hw71 hMw71 => ?_)
          obtain ⟨hr71, hOK3, h⟩ := h r71 M71 hP71
          subst hr71
          refine g_aload_n (q0 := 75) (j := 0) rfl dX11_replay_74 rfl ?_
          refine g_getp (q0 := 78) (b := 399) rfl ff_X11_31 dX11_replay_75 rfl hOK3 (by decide) (sh_0 hOK3) rfl (by decide) ?_
          refine g_aload_n (q0 := 79) (j := 0) rfl dX11_replay_78 rfl ?_
          refine g_getp (q0 := 82) (b := 4) rfl ff_X11_27 dX11_replay_79 rfl hOK3 (by decide) (sh_0 hOK3) rfl (by decide) ?_
          refine g_getp (q0 := 85) (b := 11) rfl ff_X11_278 dX11_replay_82 rfl hOK3 (by decide) (sh_4 hOK3) rfl (by decide) ?_
          refine g_iload_n (q0 := 86) (j := 3) rfl dX11_replay_85 rfl ?_
          obtain ⟨g4, h⟩ := h
          refine g_iald (q0 := 87) rfl dX11_replay_86 (sh_11 hOK3) g4.1 g4.2 ?_
          refine g_aload_n (q0 := 88) (j := 0) rfl dX11_replay_87 rfl ?_
          refine g_getp (q0 := 91) (b := 4) rfl ff_X11_27 dX11_replay_88 rfl hOK3 (by decide) (sh_0 hOK3) rfl (by decide) ?_
          refine g_getp (q0 := 94) (b := 12) rfl ff_X11_280 dX11_replay_91 rfl hOK3 (by decide) (sh_4 hOK3) rfl (by decide) ?_
          refine g_iload_n (q0 := 95) (j := 3) rfl dX11_replay_94 rfl ?_
          refine g_iald (q0 := 96) rfl dX11_replay_95 (sh_12 hOK3) g4.1 g4.2 ?_
          obtain ⟨P96, e96, h⟩ := h
          refine g_callVm (as := [_, _]) (rest := []) mt_X2_begin mi_X2_begin se_X2_begin ml_X11_248 dX11_replay_96 (q0 := 99) rfl rfl (sh_399 hOK3) rfl rfl e96 rfl ⟨by decide, by decide⟩ (Nat.le_of_ble_eq_true rfl) ⟨Nat.zero_le _, Nat.zero_le _⟩ (fun r96 M96 hP96 hw96 hMw96 => ?_)
          obtain ⟨hr96, hOK5, h⟩ := h r96 M96 hP96
          subst hr96
          refine g_aload_n (q0 := 100) (j := 0) rfl dX11_replay_99 rfl ?_
          refine g_getp (q0 := 103) (b := 399) rfl ff_X11_31 dX11_replay_100 rfl hOK5 (by decide) (sh_0 hOK5) rfl (by decide) ?_
          refine g_iload (q0 := 105) (j := 5) rfl dX11_replay_103 rfl ?_
          obtain ⟨P105, e105, h⟩ := h
          refine g_callVm (as := [_]) (rest := []) mt_X2_addParent mi_X2_addParent se_X2_addParent ml_X11_250 dX11_replay_105 (q0 := 108) rfl rfl (sh_399 hOK5) rfl rfl e105 rfl ⟨by decide, by decide⟩ (Nat.le_of_ble_eq_true rfl) ⟨Nat.zero_le _, Nat.zero_le _⟩ (fun r105 M105 hP105 hw105 hMw105 => ?_)
          obtain ⟨hr105, hOK6, h⟩ := h r105 M105 hP105
          subst hr105
          refine g_aload_n (q0 := 109) (j := 0) rfl dX11_replay_108 rfl ?_
          refine g_getp (q0 := 112) (b := 399) rfl ff_X11_31 dX11_replay_109 rfl hOK6 (by decide) (sh_0 hOK6) rfl (by decide) ?_
          refine g_aload_n (q0 := 113) (j := 0) rfl dX11_replay_112 rfl ?_
          refine g_getp (q0 := 116) (b := 4) rfl ff_X11_27 dX11_replay_113 rfl hOK6 (by decide) (sh_0 hOK6) rfl (by decide) ?_
          refine g_iload_n (q0 := 117) (j := 3) rfl dX11_replay_116 rfl ?_
          obtain ⟨P117, e117, h⟩ := h
          refine g_callVm (as := [_, _]) (rest := []) mt_X2_takeMessage mi_X2_takeMessage se_X2_takeMessage ml_X11_282 dX11_replay_117 (q0 := 120) rfl rfl (sh_399 hOK6) rfl rfl e117 rfl ⟨by decide, by decide⟩ (Nat.le_of_ble_eq_true rfl) ⟨Nat.zero_le _, Nat.zero_le _⟩ (fun r117 M117 hP117 hw117 hMw117 => ?_)
          obtain ⟨hr117, hOK7, h⟩ := h r117 M117 hP117
          subst hr117
          refine g_aload_n (q0 := 121) (j := 0) rfl dX11_replay_120 rfl ?_
          refine g_getp (q0 := 124) (b := 399) rfl ff_X11_31 dX11_replay_121 rfl hOK7 (by decide) (sh_0 hOK7) rfl (by decide) ?_
          refine g_getp (q0 := 127) (b := 401) rfl ff_X11_253 dX11_replay_124 rfl hOK7 (by decide) (sh_399 hOK7) rfl (by decide) ?_
          refine g_aload_n (q0 := 128) (j := 0) rfl dX11_replay_127 rfl ?_
          refine g_getp (q0 := 131) (b := 4) rfl ff_X11_27 dX11_replay_128 rfl hOK7 (by decide) (sh_0 hOK7) rfl (by decide) ?_
          refine g_iload (q0 := 133) (j := 5) rfl dX11_replay_131 rfl ?_
          obtain ⟨v133, e133, h⟩ := h
          refine g_callVp (as := [_]) (rest := [_]) mt_X1_tree mi_X1_tree se_X1_tree ml_X11_155 dX11_replay_133 (q0 := 136) rfl rfl (sh_4 hOK7) rfl rfl e133 rfl ⟨by decide, by decide⟩ (Nat.le_of_ble_eq_true rfl) ⟨Nat.zero_le _, Nat.zero_le _⟩ (fun _ => ?_)
          obtain ⟨P136, e136, h⟩ := h
          refine g_callVm (as := [_]) (rest := []) mt_X10_copy mi_X10_copy se_X10_copy ml_X11_256 dX11_replay_136 (q0 := 139) rfl rfl (sh_401 hOK7) rfl rfl e136 rfl ⟨by decide, by decide⟩ (Nat.le_of_ble_eq_true rfl) ⟨Nat.zero_le _, Nat.zero_le _⟩ (fun r136 M136 hP136 hw136 hMw136 => ?_)
          obtain ⟨hr136, hOK8, h⟩ := h r136 M136 hP136
          subst hr136
          refine g_aload_n (q0 := 140) (j := 0) rfl dX11_replay_139 rfl ?_
          refine g_getp (q0 := 143) (b := 440) rfl ff_X11_62 dX11_replay_140 rfl hOK8 (by decide) (sh_0 hOK8) rfl (by decide) ?_
          refine g_aload_n (q0 := 144) (j := 0) rfl dX11_replay_143 rfl ?_
          refine g_getp (q0 := 147) (b := 399) rfl ff_X11_31 dX11_replay_144 rfl hOK8 (by decide) (sh_0 hOK8) rfl (by decide) ?_
          refine g_getp (q0 := 150) (b := 401) rfl ff_X11_253 dX11_replay_147 rfl hOK8 (by decide) (sh_399 hOK8) rfl (by decide) ?_
          obtain ⟨v150, e150, h⟩ := h
          refine g_callVp (as := [_]) (rest := []) mt_X0_fits mi_X0_fits se_X0_fits ml_X11_286 dX11_replay_150 (q0 := 153) rfl rfl (sh_440 hOK8) rfl rfl e150 rfl ⟨by decide, by decide⟩ (Nat.le_of_ble_eq_true rfl) ⟨Nat.zero_le _, Nat.zero_le _⟩ (fun _ => ?_)
          refine g_if_ne (q0 := 156) (tgt := 159) rfl dX11_replay_153 (by decide) (fun h153 => ?_) (fun h153 => ?_)
          · replace h := wI_neg h153 h
            refine g_aload_n (q0 := 160) (j := 0) rfl dX11_replay_159 rfl ?_
            refine g_getp (q0 := 163) (b := 440) rfl ff_X11_62 dX11_replay_160 rfl hOK8 (by decide) (sh_0 hOK8) rfl (by decide) ?_
            refine g_aload_n (q0 := 164) (j := 0) rfl dX11_replay_163 rfl ?_
            refine g_getp (q0 := 167) (b := 399) rfl ff_X11_31 dX11_replay_164 rfl hOK8 (by decide) (sh_0 hOK8) rfl (by decide) ?_
            refine g_getp (q0 := 170) (b := 401) rfl ff_X11_253 dX11_replay_167 rfl hOK8 (by decide) (sh_399 hOK8) rfl (by decide) ?_
            obtain ⟨P170, e170, h⟩ := h
            refine g_callVm (as := [_]) (rest := []) mt_X0_apply mi_X0_apply se_X0_apply ml_X11_289 dX11_replay_170 (q0 := 173) rfl rfl (sh_440 hOK8) rfl rfl e170 rfl ⟨by decide, by decide⟩ (Nat.le_of_ble_eq_true rfl) ⟨Nat.zero_le _, Nat.zero_le _⟩ (fun r170 M170 hP170 hw170 hMw170 => ?_)
            obtain ⟨hr170, hOK9, h⟩ := h r170 M170 hP170
            subst hr170
            refine g_aload_n (q0 := 174) (j := 0) rfl dX11_replay_173 rfl ?_
            refine g_getp (q0 := 177) (b := 399) rfl ff_X11_31 dX11_replay_174 rfl hOK9 (by decide) (sh_0 hOK9) rfl (by decide) ?_
            refine g_getp (q0 := 180) (b := 401) rfl ff_X11_253 dX11_replay_177 rfl hOK9 (by decide) (sh_399 hOK9) rfl (by decide) ?_
            obtain ⟨v180, e180, h⟩ := h
            refine g_callVp (as := []) (rest := []) mt_X10_clashes mi_X10_clashes se_X10_clashes ml_X11_263 dX11_replay_180 (q0 := 183) rfl rfl (sh_401 hOK9) rfl rfl e180 rfl ⟨by decide, by decide⟩ (Nat.le_of_ble_eq_true rfl) ⟨Nat.zero_le _, Nat.zero_le _⟩ (fun _ => ?_)
            refine g_if_eq (q0 := 186) (tgt := 189) rfl dX11_replay_183 (by decide) (fun h183 => ?_) (fun h183 => ?_)
            · replace h := wI_pos h183 h
              refine g_aload_n (q0 := 190) (j := 0) rfl dX11_replay_189 rfl ?_
              refine g_getp (q0 := 193) (b := 399) rfl ff_X11_31 dX11_replay_190 rfl hOK9 (by decide) (sh_0 hOK9) rfl (by decide) ?_
              refine g_getp (q0 := 196) (b := 401) rfl ff_X11_253 dX11_replay_193 rfl hOK9 (by decide) (sh_399 hOK9) rfl (by decide) ?_
              refine g_getf (q0 := 199) (t := 0) (fi := 2) rfl rfl ff_X11_159 dX11_replay_196 rfl (sh_401 hOK9) ?_
              refine g_bipush (q0 := 201) rfl dX11_replay_199 (k := ?_)
              refine g_icmp_le (q0 := 204) (tgt := 207) rfl dX11_replay_201 (by decide) (fun h201 => ?_) (fun h201 => ?_)
              · replace h := wI_neg (Int.not_lt.mpr h201) h
                refine g_aload_n (q0 := 208) (j := 0) rfl dX11_replay_207 rfl ?_
                refine g_getp (q0 := 211) (b := 399) rfl ff_X11_31 dX11_replay_208 rfl hOK9 (by decide) (sh_0 hOK9) rfl (by decide) ?_
                refine g_getp (q0 := 214) (b := 401) rfl ff_X11_253 dX11_replay_211 rfl hOK9 (by decide) (sh_399 hOK9) rfl (by decide) ?_
                refine g_aload_n (q0 := 215) (j := 0) rfl dX11_replay_214 rfl ?_
                refine g_getp (q0 := 218) (b := 4) rfl ff_X11_27 dX11_replay_215 rfl hOK9 (by decide) (sh_0 hOK9) rfl (by decide) ?_
                refine g_iload (q0 := 220) (j := 5) rfl dX11_replay_218 rfl ?_
                obtain ⟨v220, e220, h⟩ := h
                refine g_callVp (as := [_]) (rest := [_]) mt_X1_tree mi_X1_tree se_X1_tree ml_X11_155 dX11_replay_220 (q0 := 223) rfl rfl (sh_4 hOK9) rfl rfl e220 rfl ⟨by decide, by decide⟩ (Nat.le_of_ble_eq_true rfl) ⟨Nat.zero_le _, Nat.zero_le _⟩ (fun _ => ?_)
                obtain ⟨v223, e223, h⟩ := h
                refine g_callVp (as := [_]) (rest := []) mt_X10_isLike mi_X10_isLike se_X10_isLike ml_X11_292 dX11_replay_223 (q0 := 226) rfl rfl (sh_401 hOK9) rfl rfl e223 rfl ⟨by decide, by decide⟩ (Nat.le_of_ble_eq_true rfl) ⟨Nat.zero_le _, Nat.zero_le _⟩ (fun _ => ?_)
                refine g_if_eq (q0 := 229) (tgt := 234) rfl dX11_replay_226 (by decide) (fun h226 => ?_) (fun h226 => ?_)
                · replace h := wI_pos h226 h
                  refine g_aload_n (q0 := 235) (j := 0) rfl dX11_replay_234 rfl ?_
                  refine g_aload (q0 := 237) (j := 4) rfl dX11_replay_235 rfl ?_
                  refine g_iload_n (q0 := 238) (j := 2) rfl dX11_replay_237 rfl ?_
                  obtain ⟨P238, e238, h⟩ := h
                  refine g_callVm (as := [_, _]) (rest := []) mt_X11_settleOn mi_X11_settleOn se_X11_settleOn ml_X11_267 dX11_replay_238 (q0 := 241) rfl rfl (sh_0 hOK9) rfl rfl e238 rfl ⟨by decide, by decide⟩ (Nat.le_of_ble_eq_true rfl) ⟨Nat.zero_le _, Nat.zero_le _⟩ (fun r238 M238 hP238 hw238 hMw238 => ?_)
                  obtain ⟨v238, hr238, hOK10, h⟩ := h r238 M238 hP238
                  subst hr238
                  exact g_ireturn dX11_replay_241 rfl ⟨Nat.zero_le _, Nat.zero_le _⟩ h
                · replace h := wI_neg h226 h
                  refine g_bipush (q0 := 231) rfl dX11_replay_229 (k := ?_)
                  refine g_goto (tgt := 241) dX11_replay_231 (by decide) ?_
                  exact g_ireturn dX11_replay_241 rfl ⟨Nat.zero_le _, Nat.zero_le _⟩ h
              · replace h := wI_pos h201 h
                refine g_bipush (q0 := 206) rfl dX11_replay_204 (k := ?_)
                exact g_ireturn dX11_replay_206 rfl ⟨Nat.zero_le _, Nat.zero_le _⟩ h
            · replace h := wI_neg h183 h
              refine g_bipush (q0 := 188) rfl dX11_replay_186 (k := ?_)
              exact g_ireturn dX11_replay_188 rfl ⟨Nat.zero_le _, Nat.zero_le _⟩ h
          · replace h := wI_pos h153 h
            refine g_bipush (q0 := 158) rfl dX11_replay_156 (k := ?_)
            exact g_ireturn dX11_replay_158 rfl ⟨Nat.zero_le _, Nat.zero_le _⟩ h
        · replace h := wI_pos h45 h
          refine g_bipush (q0 := 50) rfl dX11_replay_48 (k := ?_)
          exact g_ireturn dX11_replay_50 rfl ⟨Nat.zero_le _, Nat.zero_le _⟩ h
      · replace h := wI_pos h22 h
        refine g_iconst (q0 := 26) rfl dX11_replay_25 (k := ?_)
        exact g_ireturn dX11_replay_26 rfl ⟨Nat.zero_le _, Nat.zero_le _⟩ h
-- ==== X11_settleOn
theorem dX11_settleOn_0 : decode cX11_settleOn 0 = .ok (.aload_n 0, 1) := by decide +kernel
theorem dX11_settleOn_1 : decode cX11_settleOn 1 = .ok (.getfield 27, 3) := by decide +kernel
theorem dX11_settleOn_4 : decode cX11_settleOn 4 = .ok (.aload_n 0, 1) := by decide +kernel
theorem dX11_settleOn_5 : decode cX11_settleOn 5 = .ok (.getfield 31, 3) := by decide +kernel
theorem dX11_settleOn_8 : decode cX11_settleOn 8 = .ok (.invokevirtual 126, 3) := by decide +kernel
theorem dX11_settleOn_11 : decode cX11_settleOn 11 = .ok (.istore_n 3, 1) := by decide +kernel
theorem dX11_settleOn_12 : decode cX11_settleOn 12 = .ok (.iload_n 3, 1) := by decide +kernel
theorem dX11_settleOn_13 : decode cX11_settleOn 13 = .ok (.ifCond .lt 11, 3) := by decide +kernel
theorem dX11_settleOn_16 : decode cX11_settleOn 16 = .ok (.aload_n 1, 1) := by decide +kernel
theorem dX11_settleOn_17 : decode cX11_settleOn 17 = .ok (.iconst 0, 1) := by decide +kernel
theorem dX11_settleOn_18 : decode cX11_settleOn 18 = .ok (.iload_n 2, 1) := by decide +kernel
theorem dX11_settleOn_19 : decode cX11_settleOn 19 = .ok (.iload_n 3, 1) := by decide +kernel
theorem dX11_settleOn_20 : decode cX11_settleOn 20 = .ok (.iconst (-1), 1) := by decide +kernel
theorem dX11_settleOn_21 : decode cX11_settleOn 21 = .ok (.invokevirtual 181, 3) := by decide +kernel
theorem dX11_settleOn_24 : decode cX11_settleOn 24 = .ok (.iload_n 3, 1) := by decide +kernel
theorem dX11_settleOn_25 : decode cX11_settleOn 25 = .ok (.ireturn, 1) := by decide +kernel
theorem w_X11_settleOn {sh : gS} {Q : Option gV → gS → gM → Prop} {a1 a2 : Int} {M : gM} (hOK : gOK sh M) (h : (∃ P8 : Option gV → gM → Prop, gC (gr 3 114) yX1_settle cX1_settle 4 (some (.int)) [(4, 4), (4, 399)] sh M (gPm sh P8) ∧ ∀ (r8 : Option gV) (M8 : gM), P8 r8 M8 → ∃ v8 : Int, r8 = some (0, v8) ∧ gOK sh M8 ∧
    (if v8 < 0 then
      (Q (some (0, v8)) sh M8)
    else
      ((gsh sh a1 = some (0, 8) ∧ a1 < 758) ∧
        (∃ P21 : Option gV → gM → Prop, gC (gr 2 45) yX7_lay cX7_lay 6 none [(4, a1), (0, 0), (0, a2), (0, v8), (0, -1)] sh M8 (gPm sh P21) ∧ ∀ (r21 : Option gV) (M21 : gM), P21 r21 M21 → r21 = none ∧ gOK sh M21 ∧
          (Q (some (0, v8)) sh M21)))))) : gC (gr 4 137) yX11_settleOn cX11_settleOn 4 (some (.int)) [(4, 0), (4, a1), (0, a2)] sh M Q := by
  refine gC_ofA (lv := [_, _, _, _]) (by decide +kernel) (Nat.le_of_ble_eq_true rfl) rfl (fun hMw hav => ?_)
  refine g_aload_n (q0 := 1) (j := 0) rfl dX11_settleOn_0 rfl ?_
  refine g_getp (q0 := 4) (b := 4) rfl ff_X11_27 dX11_settleOn_1 rfl hOK (by decide) (sh_0 hOK) rfl (by decide) ?_
  refine g_aload_n (q0 := 5) (j := 0) rfl dX11_settleOn_4 rfl ?_
  refine g_getp (q0 := 8) (b := 399) rfl ff_X11_31 dX11_settleOn_5 rfl hOK (by decide) (sh_0 hOK) rfl (by decide) ?_
  obtain ⟨P8, e8, h⟩ := h
  refine g_callVm (as := [_]) (rest := []) mt_X1_settle mi_X1_settle se_X1_settle ml_X11_126 dX11_settleOn_8 (q0 := 11) rfl rfl (sh_4 hOK) rfl rfl e8 rfl ⟨by decide, by decide⟩ (Nat.le_of_ble_eq_true rfl) ⟨Nat.zero_le _, Nat.zero_le _⟩ (fun r8 M8 hP8 hw8 hMw8 => ?_)
  obtain ⟨v8, hr8, hOK1, h⟩ := h r8 M8 hP8
  subst hr8
  refine g_istore_n (q0 := 12) (j := 3) (lv2 := [_, _, _, _]) rfl dX11_settleOn_11 (by decide) rfl rfl ?_
  refine g_iload_n (q0 := 13) (j := 3) rfl dX11_settleOn_12 rfl ?_
  refine g_if_lt (q0 := 16) (tgt := 24) rfl dX11_settleOn_13 (by decide) (fun h13 => ?_) (fun h13 => ?_)
  · replace h := wI_pos h13 h
    refine g_iload_n (q0 := 25) (j := 3) rfl dX11_settleOn_24 rfl ?_
    exact g_ireturn dX11_settleOn_25 rfl ⟨Nat.zero_le _, Nat.zero_le _⟩ h
  · replace h := wI_neg (Int.not_lt.mpr h13) h
    refine g_aload_n (q0 := 17) (j := 1) rfl dX11_settleOn_16 rfl ?_
    refine g_iconst (q0 := 18) rfl dX11_settleOn_17 (k := ?_)
    refine g_iload_n (q0 := 19) (j := 2) rfl dX11_settleOn_18 rfl ?_
    refine g_iload_n (q0 := 20) (j := 3) rfl dX11_settleOn_19 rfl ?_
    refine g_iconst (q0 := 21) rfl dX11_settleOn_20 (k := ?_)
    obtain ⟨g2, h⟩ := h
    obtain ⟨P21, e21, h⟩ := h
    refine g_callVm (as := [_, _, _, _]) (rest := []) mt_X7_lay mi_X7_lay se_X7_lay ml_X11_181 dX11_settleOn_21 (q0 := 24) rfl rfl g2.1 rfl rfl e21 rfl ⟨by decide, by decide⟩ (Nat.le_of_ble_eq_true rfl) ⟨Nat.zero_le _, Nat.zero_le _⟩ (fun r21 M21 hP21 hw21 hMw21 => ?_)
    obtain ⟨hr21, hOK3, h⟩ := h r21 M21 hP21
    subst hr21
    refine g_iload_n (q0 := 25) (j := 3) rfl dX11_settleOn_24 rfl ?_
    exact g_ireturn dX11_settleOn_25 rfl ⟨Nat.zero_le _, Nat.zero_le _⟩ h
-- ==== X11_commitIs
theorem dX11_commitIs_0 : decode cX11_commitIs 0 = .ok (.aload_n 0, 1) := by decide +kernel
theorem dX11_commitIs_1 : decode cX11_commitIs 1 = .ok (.getfield 27, 3) := by decide +kernel
theorem dX11_commitIs_4 : decode cX11_commitIs 4 = .ok (.iload_n 1, 1) := by decide +kernel
theorem dX11_commitIs_5 : decode cX11_commitIs 5 = .ok (.invokevirtual 152, 3) := by decide +kernel
theorem dX11_commitIs_8 : decode cX11_commitIs 8 = .ok (.ifCond .ne 5, 3) := by decide +kernel
theorem dX11_commitIs_11 : decode cX11_commitIs 11 = .ok (.iconst (-1), 1) := by decide +kernel
theorem dX11_commitIs_12 : decode cX11_commitIs 12 = .ok (.ireturn, 1) := by decide +kernel
theorem dX11_commitIs_13 : decode cX11_commitIs 13 = .ok (.iload_n 2, 1) := by decide +kernel
theorem dX11_commitIs_14 : decode cX11_commitIs 14 = .ok (.tableswitch 214 0 12 #[66, 76, 86, 96, 108, 118, 128, 140, 149, 214, 180, 180, 180], 66) := by decide +kernel
theorem dX11_commitIs_80 : decode cX11_commitIs 80 = .ok (.aload_n 0, 1) := by decide +kernel
theorem dX11_commitIs_81 : decode cX11_commitIs 81 = .ok (.getfield 27, 3) := by decide +kernel
theorem dX11_commitIs_84 : decode cX11_commitIs 84 = .ok (.getfield 295, 3) := by decide +kernel
theorem dX11_commitIs_87 : decode cX11_commitIs 87 = .ok (.iload_n 1, 1) := by decide +kernel
theorem dX11_commitIs_88 : decode cX11_commitIs 88 = .ok (.iaload, 1) := by decide +kernel
theorem dX11_commitIs_89 : decode cX11_commitIs 89 = .ok (.ireturn, 1) := by decide +kernel
theorem dX11_commitIs_90 : decode cX11_commitIs 90 = .ok (.aload_n 0, 1) := by decide +kernel
theorem dX11_commitIs_91 : decode cX11_commitIs 91 = .ok (.getfield 27, 3) := by decide +kernel
theorem dX11_commitIs_94 : decode cX11_commitIs 94 = .ok (.getfield 278, 3) := by decide +kernel
theorem dX11_commitIs_97 : decode cX11_commitIs 97 = .ok (.iload_n 1, 1) := by decide +kernel
theorem dX11_commitIs_98 : decode cX11_commitIs 98 = .ok (.iaload, 1) := by decide +kernel
theorem dX11_commitIs_99 : decode cX11_commitIs 99 = .ok (.ireturn, 1) := by decide +kernel
theorem dX11_commitIs_100 : decode cX11_commitIs 100 = .ok (.aload_n 0, 1) := by decide +kernel
theorem dX11_commitIs_101 : decode cX11_commitIs 101 = .ok (.getfield 27, 3) := by decide +kernel
theorem dX11_commitIs_104 : decode cX11_commitIs 104 = .ok (.getfield 280, 3) := by decide +kernel
theorem dX11_commitIs_107 : decode cX11_commitIs 107 = .ok (.iload_n 1, 1) := by decide +kernel
theorem dX11_commitIs_108 : decode cX11_commitIs 108 = .ok (.iaload, 1) := by decide +kernel
theorem dX11_commitIs_109 : decode cX11_commitIs 109 = .ok (.ireturn, 1) := by decide +kernel
theorem dX11_commitIs_110 : decode cX11_commitIs 110 = .ok (.aload_n 0, 1) := by decide +kernel
theorem dX11_commitIs_111 : decode cX11_commitIs 111 = .ok (.getfield 27, 3) := by decide +kernel
theorem dX11_commitIs_114 : decode cX11_commitIs 114 = .ok (.iload_n 1, 1) := by decide +kernel
theorem dX11_commitIs_115 : decode cX11_commitIs 115 = .ok (.invokevirtual 155, 3) := by decide +kernel
theorem dX11_commitIs_118 : decode cX11_commitIs 118 = .ok (.getfield 159, 3) := by decide +kernel
theorem dX11_commitIs_121 : decode cX11_commitIs 121 = .ok (.ireturn, 1) := by decide +kernel
theorem dX11_commitIs_122 : decode cX11_commitIs 122 = .ok (.aload_n 0, 1) := by decide +kernel
theorem dX11_commitIs_123 : decode cX11_commitIs 123 = .ok (.getfield 27, 3) := by decide +kernel
theorem dX11_commitIs_126 : decode cX11_commitIs 126 = .ok (.getfield 298, 3) := by decide +kernel
theorem dX11_commitIs_129 : decode cX11_commitIs 129 = .ok (.iload_n 1, 1) := by decide +kernel
theorem dX11_commitIs_130 : decode cX11_commitIs 130 = .ok (.iaload, 1) := by decide +kernel
theorem dX11_commitIs_131 : decode cX11_commitIs 131 = .ok (.ireturn, 1) := by decide +kernel
theorem dX11_commitIs_132 : decode cX11_commitIs 132 = .ok (.aload_n 0, 1) := by decide +kernel
theorem dX11_commitIs_133 : decode cX11_commitIs 133 = .ok (.getfield 27, 3) := by decide +kernel
theorem dX11_commitIs_136 : decode cX11_commitIs 136 = .ok (.getfield 301, 3) := by decide +kernel
theorem dX11_commitIs_139 : decode cX11_commitIs 139 = .ok (.iload_n 1, 1) := by decide +kernel
theorem dX11_commitIs_140 : decode cX11_commitIs 140 = .ok (.iaload, 1) := by decide +kernel
theorem dX11_commitIs_141 : decode cX11_commitIs 141 = .ok (.ireturn, 1) := by decide +kernel
theorem dX11_commitIs_142 : decode cX11_commitIs 142 = .ok (.aload_n 0, 1) := by decide +kernel
theorem dX11_commitIs_143 : decode cX11_commitIs 143 = .ok (.getfield 27, 3) := by decide +kernel
theorem dX11_commitIs_146 : decode cX11_commitIs 146 = .ok (.getfield 304, 3) := by decide +kernel
theorem dX11_commitIs_149 : decode cX11_commitIs 149 = .ok (.iload_n 1, 1) := by decide +kernel
theorem dX11_commitIs_150 : decode cX11_commitIs 150 = .ok (.invokevirtual 307, 3) := by decide +kernel
theorem dX11_commitIs_153 : decode cX11_commitIs 153 = .ok (.ireturn, 1) := by decide +kernel
theorem dX11_commitIs_154 : decode cX11_commitIs 154 = .ok (.aload_n 0, 1) := by decide +kernel
theorem dX11_commitIs_155 : decode cX11_commitIs 155 = .ok (.getfield 27, 3) := by decide +kernel
theorem dX11_commitIs_158 : decode cX11_commitIs 158 = .ok (.iload_n 1, 1) := by decide +kernel
theorem dX11_commitIs_159 : decode cX11_commitIs 159 = .ok (.invokevirtual 310, 3) := by decide +kernel
theorem dX11_commitIs_162 : decode cX11_commitIs 162 = .ok (.ireturn, 1) := by decide +kernel
theorem dX11_commitIs_163 : decode cX11_commitIs 163 = .ok (.aload_n 0, 1) := by decide +kernel
theorem dX11_commitIs_164 : decode cX11_commitIs 164 = .ok (.getfield 62, 3) := by decide +kernel
theorem dX11_commitIs_167 : decode cX11_commitIs 167 = .ok (.aload_n 0, 1) := by decide +kernel
theorem dX11_commitIs_168 : decode cX11_commitIs 168 = .ok (.getfield 27, 3) := by decide +kernel
theorem dX11_commitIs_171 : decode cX11_commitIs 171 = .ok (.iload_n 1, 1) := by decide +kernel
theorem dX11_commitIs_172 : decode cX11_commitIs 172 = .ok (.invokevirtual 271, 3) := by decide +kernel
theorem dX11_commitIs_175 : decode cX11_commitIs 175 = .ok (.aload_n 0, 1) := by decide +kernel
theorem dX11_commitIs_176 : decode cX11_commitIs 176 = .ok (.getfield 27, 3) := by decide +kernel
theorem dX11_commitIs_179 : decode cX11_commitIs 179 = .ok (.iload_n 1, 1) := by decide +kernel
theorem dX11_commitIs_180 : decode cX11_commitIs 180 = .ok (.invokevirtual 155, 3) := by decide +kernel
theorem dX11_commitIs_183 : decode cX11_commitIs 183 = .ok (.invokevirtual 274, 3) := by decide +kernel
theorem dX11_commitIs_186 : decode cX11_commitIs 186 = .ok (.aload_n 0, 1) := by decide +kernel
theorem dX11_commitIs_187 : decode cX11_commitIs 187 = .ok (.getfield 62, 3) := by decide +kernel
theorem dX11_commitIs_190 : decode cX11_commitIs 190 = .ok (.getfield 313, 3) := by decide +kernel
theorem dX11_commitIs_193 : decode cX11_commitIs 193 = .ok (.ireturn, 1) := by decide +kernel
theorem dX11_commitIs_194 : decode cX11_commitIs 194 = .ok (.iload_n 2, 1) := by decide +kernel
theorem dX11_commitIs_195 : decode cX11_commitIs 195 = .ok (.bipush 10, 2) := by decide +kernel
theorem dX11_commitIs_197 : decode cX11_commitIs 197 = .ok (.isub, 1) := by decide +kernel
theorem dX11_commitIs_198 : decode cX11_commitIs 198 = .ok (.aload_n 0, 1) := by decide +kernel
theorem dX11_commitIs_199 : decode cX11_commitIs 199 = .ok (.getfield 27, 3) := by decide +kernel
theorem dX11_commitIs_202 : decode cX11_commitIs 202 = .ok (.getfield 295, 3) := by decide +kernel
theorem dX11_commitIs_205 : decode cX11_commitIs 205 = .ok (.iload_n 1, 1) := by decide +kernel
theorem dX11_commitIs_206 : decode cX11_commitIs 206 = .ok (.iaload, 1) := by decide +kernel
theorem dX11_commitIs_207 : decode cX11_commitIs 207 = .ok (.if_icmp .ge 18, 3) := by decide +kernel
theorem dX11_commitIs_210 : decode cX11_commitIs 210 = .ok (.aload_n 0, 1) := by decide +kernel
theorem dX11_commitIs_211 : decode cX11_commitIs 211 = .ok (.getfield 27, 3) := by decide +kernel
theorem dX11_commitIs_214 : decode cX11_commitIs 214 = .ok (.iload_n 1, 1) := by decide +kernel
theorem dX11_commitIs_215 : decode cX11_commitIs 215 = .ok (.iload_n 2, 1) := by decide +kernel
theorem dX11_commitIs_216 : decode cX11_commitIs 216 = .ok (.bipush 10, 2) := by decide +kernel
theorem dX11_commitIs_218 : decode cX11_commitIs 218 = .ok (.isub, 1) := by decide +kernel
theorem dX11_commitIs_219 : decode cX11_commitIs 219 = .ok (.invokevirtual 314, 3) := by decide +kernel
theorem dX11_commitIs_222 : decode cX11_commitIs 222 = .ok (.goto 5, 3) := by decide +kernel
theorem dX11_commitIs_225 : decode cX11_commitIs 225 = .ok (.bipush (-2), 2) := by decide +kernel
theorem dX11_commitIs_227 : decode cX11_commitIs 227 = .ok (.ireturn, 1) := by decide +kernel
theorem dX11_commitIs_228 : decode cX11_commitIs 228 = .ok (.iconst (-1), 1) := by decide +kernel
theorem dX11_commitIs_229 : decode cX11_commitIs 229 = .ok (.ireturn, 1) := by decide +kernel
theorem w_X11_commitIs {sh : gS} {Q : Option gV → gS → gM → Prop} {a1 a2 : Int} {M : gM} (hOK : gOK sh M) (h : (∃ v5 : Int, gC (gr 0 0) yX1_has cX1_has 2 (some (.boolean)) [(4, 4), (0, a1)] sh M (gPp sh M (0, v5)) ∧
    (if v5 = 0 then
      (Q (some (0, -1)) sh M)
    else
      (if a2 = 0 then
        ((0 ≤ a1 ∧ a1 < 120) ∧
          (Q (some (0, (M 5 a1))) sh M))
      else
        (if a2 = 1 then
          ((0 ≤ a1 ∧ a1 < 120) ∧
            (Q (some (0, (M 11 a1))) sh M))
        else
          (if a2 = 2 then
            ((0 ≤ a1 ∧ a1 < 120) ∧
              (Q (some (0, (M 12 a1))) sh M))
          else
            (if a2 = 3 then
              (∃ v115 : Int, gC (gr 0 0) yX1_tree cX1_tree 2 (some (.object "CarriedHistory$Tree")) [(4, 4), (0, a1)] sh M (gPp sh M (4, v115)) ∧
                ((gsh sh v115 = some (0, 11) ∧ v115 < 758) ∧
                  (Q (some (0, (M v115 2))) sh M)))
            else
              (if a2 = 4 then
                ((0 ≤ a1 ∧ a1 < 120) ∧
                  (Q (some (0, (M 10 a1))) sh M))
              else
                (if a2 = 5 then
                  ((0 ≤ a1 ∧ a1 < 120) ∧
                    (Q (some (0, (M 13 a1))) sh M))
                else
                  (if a2 = 6 then
                    (∃ v150 : Int, gC (gr 1 21) yX3_size cX3_size 2 (some (.int)) [(4, 14), (0, a1)] sh M (gPp sh M (0, v150)) ∧
                      (Q (some (0, v150)) sh M))
                  else
                    (if a2 = 7 then
                      (∃ v159 : Int, gC (gr 1 22) yX1_childrenOf cX1_childrenOf 5 (some (.int)) [(4, 4), (0, a1)] sh M (gPp sh M (0, v159)) ∧
                        (Q (some (0, v159)) sh M))
                    else
                      (if a2 = 8 then
                        (∃ v172 : Int, gC (gr 1 22) yX1_firstTree cX1_firstTree 2 (some (.object "CarriedHistory$Tree")) [(4, 4), (0, a1)] sh M (gPp sh M (4, v172)) ∧
                          (∃ v180 : Int, gC (gr 0 0) yX1_tree cX1_tree 2 (some (.object "CarriedHistory$Tree")) [(4, 4), (0, a1)] sh M (gPp sh M (4, v180)) ∧
                            (∃ P183 : Option gV → gM → Prop, gC (gr 1 25) yX0_measure cX0_measure 10 none [(4, 440), (4, v172), (4, v180)] sh M (gPm sh P183) ∧ ∀ (r183 : Option gV) (M183 : gM), P183 r183 M183 → r183 = none ∧ gOK sh M183 ∧
                              (Q (some (0, (M183 440 0))) sh M183))))
                      else
                        (if a2 = 9 then
                          (Q (some (0, -1)) sh M)
                        else
                          (if a2 = 10 then
                            ((0 ≤ a1 ∧ a1 < 120) ∧
                              (if (gw32 (a2 - (10 : Int))) < (M 5 a1) then
                                (∃ v219 : Int, gC (gr 0 0) yX1_parent cX1_parent 3 (some (.int)) [(4, 4), (0, a1), (0, (gw32 (a2 - (10 : Int))))] sh M (gPp sh M (0, v219)) ∧
                                  (Q (some (0, v219)) sh M))
                              else
                                (Q (some (0, -2)) sh M)))
                          else
                            (if a2 = 11 then
                              ((0 ≤ a1 ∧ a1 < 120) ∧
                                (if (gw32 (a2 - (10 : Int))) < (M 5 a1) then
                                  (∃ v219 : Int, gC (gr 0 0) yX1_parent cX1_parent 3 (some (.int)) [(4, 4), (0, a1), (0, (gw32 (a2 - (10 : Int))))] sh M (gPp sh M (0, v219)) ∧
                                    (Q (some (0, v219)) sh M))
                                else
                                  (Q (some (0, -2)) sh M)))
                            else
                              (if a2 = 12 then
                                ((0 ≤ a1 ∧ a1 < 120) ∧
                                  (if (gw32 (a2 - (10 : Int))) < (M 5 a1) then
                                    (∃ v219 : Int, gC (gr 0 0) yX1_parent cX1_parent 3 (some (.int)) [(4, 4), (0, a1), (0, (gw32 (a2 - (10 : Int))))] sh M (gPp sh M (0, v219)) ∧
                                      (Q (some (0, v219)) sh M))
                                  else
                                    (Q (some (0, -2)) sh M)))
                              else
                                (Q (some (0, -1)) sh M))))))))))))))))) : gC (gr 2 54) yX11_commitIs cX11_commitIs 3 (some (.int)) [(4, 0), (0, a1), (0, a2)] sh M Q := by
  refine gC_ofA (lv := [_, _, _]) (by decide +kernel) (Nat.le_of_ble_eq_true rfl) rfl (fun hMw hav => ?_)
  refine g_aload_n (q0 := 1) (j := 0) rfl dX11_commitIs_0 rfl ?_
  refine g_getp (q0 := 4) (b := 4) rfl ff_X11_27 dX11_commitIs_1 rfl hOK (by decide) (sh_0 hOK) rfl (by decide) ?_
  refine g_iload_n (q0 := 5) (j := 1) rfl dX11_commitIs_4 rfl ?_
  obtain ⟨v5, e5, h⟩ := h
  refine g_callVp (as := [_]) (rest := []) mt_X1_has mi_X1_has se_X1_has ml_X11_152 dX11_commitIs_5 (q0 := 8) rfl rfl (sh_4 hOK) rfl rfl e5 rfl ⟨by decide, by decide⟩ (Nat.le_of_ble_eq_true rfl) ⟨Nat.zero_le _, Nat.zero_le _⟩ (fun _ => ?_)
  refine g_if_ne (q0 := 11) (tgt := 13) rfl dX11_commitIs_8 (by decide) (fun h8 => ?_) (fun h8 => ?_)
  · replace h := wI_neg h8 h
    refine g_iload_n (q0 := 14) (j := 2) rfl dX11_commitIs_13 rfl ?_
    by_cases hs0 : a2 = 0
    · replace h := wI_pos hs0 h
      refine g_tabIn (off := 66) (tgt := 80) dX11_commitIs_14 (by omega) (by omega) (by rw [hs0]; rfl) (by decide) ?_
      refine g_aload_n (q0 := 81) (j := 0) rfl dX11_commitIs_80 rfl ?_
      refine g_getp (q0 := 84) (b := 4) rfl ff_X11_27 dX11_commitIs_81 rfl hOK (by decide) (sh_0 hOK) rfl (by decide) ?_
      refine g_getp (q0 := 87) (b := 5) rfl ff_X11_295 dX11_commitIs_84 rfl hOK (by decide) (sh_4 hOK) rfl (by decide) ?_
      refine g_iload_n (q0 := 88) (j := 1) rfl dX11_commitIs_87 rfl ?_
      obtain ⟨g10, h⟩ := h
      refine g_iald (q0 := 89) rfl dX11_commitIs_88 (sh_5 hOK) g10.1 g10.2 ?_
      exact g_ireturn dX11_commitIs_89 rfl ⟨Nat.zero_le _, Nat.zero_le _⟩ h
    · replace h := wI_neg hs0 h
      by_cases hs1 : a2 = 1
      · replace h := wI_pos hs1 h
        refine g_tabIn (off := 76) (tgt := 90) dX11_commitIs_14 (by omega) (by omega) (by rw [hs1]; rfl) (by decide) ?_
        refine g_aload_n (q0 := 91) (j := 0) rfl dX11_commitIs_90 rfl ?_
        refine g_getp (q0 := 94) (b := 4) rfl ff_X11_27 dX11_commitIs_91 rfl hOK (by decide) (sh_0 hOK) rfl (by decide) ?_
        refine g_getp (q0 := 97) (b := 11) rfl ff_X11_278 dX11_commitIs_94 rfl hOK (by decide) (sh_4 hOK) rfl (by decide) ?_
        refine g_iload_n (q0 := 98) (j := 1) rfl dX11_commitIs_97 rfl ?_
        obtain ⟨g9, h⟩ := h
        refine g_iald (q0 := 99) rfl dX11_commitIs_98 (sh_11 hOK) g9.1 g9.2 ?_
        exact g_ireturn dX11_commitIs_99 rfl ⟨Nat.zero_le _, Nat.zero_le _⟩ h
      · replace h := wI_neg hs1 h
        by_cases hs2 : a2 = 2
        · replace h := wI_pos hs2 h
          refine g_tabIn (off := 86) (tgt := 100) dX11_commitIs_14 (by omega) (by omega) (by rw [hs2]; rfl) (by decide) ?_
          refine g_aload_n (q0 := 101) (j := 0) rfl dX11_commitIs_100 rfl ?_
          refine g_getp (q0 := 104) (b := 4) rfl ff_X11_27 dX11_commitIs_101 rfl hOK (by decide) (sh_0 hOK) rfl (by decide) ?_
          refine g_getp (q0 := 107) (b := 12) rfl ff_X11_280 dX11_commitIs_104 rfl hOK (by decide) (sh_4 hOK) rfl (by decide) ?_
          refine g_iload_n (q0 := 108) (j := 1) rfl dX11_commitIs_107 rfl ?_
          obtain ⟨g8, h⟩ := h
          refine g_iald (q0 := 109) rfl dX11_commitIs_108 (sh_12 hOK) g8.1 g8.2 ?_
          exact g_ireturn dX11_commitIs_109 rfl ⟨Nat.zero_le _, Nat.zero_le _⟩ h
        · replace h := wI_neg hs2 h
          by_cases hs3 : a2 = 3
          · replace h := wI_pos hs3 h
            refine g_tabIn (off := 96) (tgt := 110) dX11_commitIs_14 (by omega) (by omega) (by rw [hs3]; rfl) (by decide) ?_
            refine g_aload_n (q0 := 111) (j := 0) rfl dX11_commitIs_110 rfl ?_
            refine g_getp (q0 := 114) (b := 4) rfl ff_X11_27 dX11_commitIs_111 rfl hOK (by decide) (sh_0 hOK) rfl (by decide) ?_
            refine g_iload_n (q0 := 115) (j := 1) rfl dX11_commitIs_114 rfl ?_
            obtain ⟨v115, e115, h⟩ := h
            refine g_callVp (as := [_]) (rest := []) mt_X1_tree mi_X1_tree se_X1_tree ml_X11_155 dX11_commitIs_115 (q0 := 118) rfl rfl (sh_4 hOK) rfl rfl e115 rfl ⟨by decide, by decide⟩ (Nat.le_of_ble_eq_true rfl) ⟨Nat.zero_le _, Nat.zero_le _⟩ (fun _ => ?_)
            obtain ⟨g7, h⟩ := h
            refine g_getf (q0 := 121) (t := 0) (fi := 2) rfl rfl ff_X11_159 dX11_commitIs_118 rfl g7.1 ?_
            exact g_ireturn dX11_commitIs_121 rfl ⟨Nat.zero_le _, Nat.zero_le _⟩ h
          · replace h := wI_neg hs3 h
            by_cases hs4 : a2 = 4
            · replace h := wI_pos hs4 h
              refine g_tabIn (off := 108) (tgt := 122) dX11_commitIs_14 (by omega) (by omega) (by rw [hs4]; rfl) (by decide) ?_
              refine g_aload_n (q0 := 123) (j := 0) rfl dX11_commitIs_122 rfl ?_
              refine g_getp (q0 := 126) (b := 4) rfl ff_X11_27 dX11_commitIs_123 rfl hOK (by decide) (sh_0 hOK) rfl (by decide) ?_
              refine g_getp (q0 := 129) (b := 10) rfl ff_X11_298 dX11_commitIs_126 rfl hOK (by decide) (sh_4 hOK) rfl (by decide) ?_
              refine g_iload_n (q0 := 130) (j := 1) rfl dX11_commitIs_129 rfl ?_
              obtain ⟨g6, h⟩ := h
              refine g_iald (q0 := 131) rfl dX11_commitIs_130 (sh_10 hOK) g6.1 g6.2 ?_
              exact g_ireturn dX11_commitIs_131 rfl ⟨Nat.zero_le _, Nat.zero_le _⟩ h
            · replace h := wI_neg hs4 h
              by_cases hs5 : a2 = 5
              · replace h := wI_pos hs5 h
                refine g_tabIn (off := 118) (tgt := 132) dX11_commitIs_14 (by omega) (by omega) (by rw [hs5]; rfl) (by decide) ?_
                refine g_aload_n (q0 := 133) (j := 0) rfl dX11_commitIs_132 rfl ?_
                refine g_getp (q0 := 136) (b := 4) rfl ff_X11_27 dX11_commitIs_133 rfl hOK (by decide) (sh_0 hOK) rfl (by decide) ?_
                refine g_getp (q0 := 139) (b := 13) rfl ff_X11_301 dX11_commitIs_136 rfl hOK (by decide) (sh_4 hOK) rfl (by decide) ?_
                refine g_iload_n (q0 := 140) (j := 1) rfl dX11_commitIs_139 rfl ?_
                obtain ⟨g5, h⟩ := h
                refine g_iald (q0 := 141) rfl dX11_commitIs_140 (sh_13 hOK) g5.1 g5.2 ?_
                exact g_ireturn dX11_commitIs_141 rfl ⟨Nat.zero_le _, Nat.zero_le _⟩ h
              · replace h := wI_neg hs5 h
                by_cases hs6 : a2 = 6
                · replace h := wI_pos hs6 h
                  refine g_tabIn (off := 128) (tgt := 142) dX11_commitIs_14 (by omega) (by omega) (by rw [hs6]; rfl) (by decide) ?_
                  refine g_aload_n (q0 := 143) (j := 0) rfl dX11_commitIs_142 rfl ?_
                  refine g_getp (q0 := 146) (b := 4) rfl ff_X11_27 dX11_commitIs_143 rfl hOK (by decide) (sh_0 hOK) rfl (by decide) ?_
                  refine g_getp (q0 := 149) (b := 14) rfl ff_X11_304 dX11_commitIs_146 rfl hOK (by decide) (sh_4 hOK) rfl (by decide) ?_
                  refine g_iload_n (q0 := 150) (j := 1) rfl dX11_commitIs_149 rfl ?_
                  obtain ⟨v150, e150, h⟩ := h
                  refine g_callVp (as := [_]) (rest := []) mt_X3_size mi_X3_size se_X3_size ml_X11_307 dX11_commitIs_150 (q0 := 153) rfl rfl (sh_14 hOK) rfl rfl e150 rfl ⟨by decide, by decide⟩ (Nat.le_of_ble_eq_true rfl) ⟨Nat.zero_le _, Nat.zero_le _⟩ (fun _ => ?_)
                  exact g_ireturn dX11_commitIs_153 rfl ⟨Nat.zero_le _, Nat.zero_le _⟩ h
                · replace h := wI_neg hs6 h
                  by_cases hs7 : a2 = 7
                  · replace h := wI_pos hs7 h
                    refine g_tabIn (off := 140) (tgt := 154) dX11_commitIs_14 (by omega) (by omega) (by rw [hs7]; rfl) (by decide) ?_
                    refine g_aload_n (q0 := 155) (j := 0) rfl dX11_commitIs_154 rfl ?_
                    refine g_getp (q0 := 158) (b := 4) rfl ff_X11_27 dX11_commitIs_155 rfl hOK (by decide) (sh_0 hOK) rfl (by decide) ?_
                    refine g_iload_n (q0 := 159) (j := 1) rfl dX11_commitIs_158 rfl ?_
                    obtain ⟨v159, e159, h⟩ := h
                    refine g_callVp (as := [_]) (rest := []) mt_X1_childrenOf mi_X1_childrenOf se_X1_childrenOf ml_X11_310 dX11_commitIs_159 (q0 := 162) rfl rfl (sh_4 hOK) rfl rfl e159 rfl ⟨by decide, by decide⟩ (Nat.le_of_ble_eq_true rfl) ⟨Nat.zero_le _, Nat.zero_le _⟩ (fun _ => ?_)
                    exact g_ireturn dX11_commitIs_162 rfl ⟨Nat.zero_le _, Nat.zero_le _⟩ h
                  · replace h := wI_neg hs7 h
                    by_cases hs8 : a2 = 8
                    · replace h := wI_pos hs8 h
                      refine g_tabIn (off := 149) (tgt := 163) dX11_commitIs_14 (by omega) (by omega) (by rw [hs8]; rfl) (by decide) ?_
                      refine g_aload_n (q0 := 164) (j := 0) rfl dX11_commitIs_163 rfl ?_
                      refine g_getp (q0 := 167) (b := 440) rfl ff_X11_62 dX11_commitIs_164 rfl hOK (by decide) (sh_0 hOK) rfl (by decide) ?_
                      refine g_aload_n (q0 := 168) (j := 0) rfl dX11_commitIs_167 rfl ?_
                      refine g_getp (q0 := 171) (b := 4) rfl ff_X11_27 dX11_commitIs_168 rfl hOK (by decide) (sh_0 hOK) rfl (by decide) ?_
                      refine g_iload_n (q0 := 172) (j := 1) rfl dX11_commitIs_171 rfl ?_
                      obtain ⟨v172, e172, h⟩ := h
                      refine g_callVp (as := [_]) (rest := [_]) mt_X1_firstTree mi_X1_firstTree se_X1_firstTree ml_X11_271 dX11_commitIs_172 (q0 := 175) rfl rfl (sh_4 hOK) rfl rfl e172 rfl ⟨by decide, by decide⟩ (Nat.le_of_ble_eq_true rfl) ⟨Nat.zero_le _, Nat.zero_le _⟩ (fun _ => ?_)
                      refine g_aload_n (q0 := 176) (j := 0) rfl dX11_commitIs_175 rfl ?_
                      refine g_getp (q0 := 179) (b := 4) rfl ff_X11_27 dX11_commitIs_176 rfl hOK (by decide) (sh_0 hOK) rfl (by decide) ?_
                      refine g_iload_n (q0 := 180) (j := 1) rfl dX11_commitIs_179 rfl ?_
                      obtain ⟨v180, e180, h⟩ := h
                      refine g_callVp (as := [_]) (rest := [_, _]) mt_X1_tree mi_X1_tree se_X1_tree ml_X11_155 dX11_commitIs_180 (q0 := 183) rfl rfl (sh_4 hOK) rfl rfl e180 rfl ⟨by decide, by decide⟩ (Nat.le_of_ble_eq_true rfl) ⟨Nat.zero_le _, Nat.zero_le _⟩ (fun _ => ?_)
                      obtain ⟨P183, e183, h⟩ := h
                      refine g_callVm (as := [_, _]) (rest := []) mt_X0_measure mi_X0_measure se_X0_measure ml_X11_274 dX11_commitIs_183 (q0 := 186) rfl rfl (sh_440 hOK) rfl rfl e183 rfl ⟨by decide, by decide⟩ (Nat.le_of_ble_eq_true rfl) ⟨Nat.zero_le _, Nat.zero_le _⟩ (fun r183 M183 hP183 hw183 hMw183 => ?_)
                      obtain ⟨hr183, hOK4, h⟩ := h r183 M183 hP183
                      subst hr183
                      refine g_aload_n (q0 := 187) (j := 0) rfl dX11_commitIs_186 rfl ?_
                      refine g_getp (q0 := 190) (b := 440) rfl ff_X11_62 dX11_commitIs_187 rfl hOK4 (by decide) (sh_0 hOK4) rfl (by decide) ?_
                      refine g_getf (q0 := 193) (t := 0) (fi := 0) rfl rfl ff_X11_313 dX11_commitIs_190 rfl (sh_440 hOK4) ?_
                      exact g_ireturn dX11_commitIs_193 rfl ⟨Nat.zero_le _, Nat.zero_le _⟩ h
                    · replace h := wI_neg hs8 h
                      by_cases hs9 : a2 = 9
                      · replace h := wI_pos hs9 h
                        refine g_tabIn (off := 214) (tgt := 228) dX11_commitIs_14 (by omega) (by omega) (by rw [hs9]; rfl) (by decide) ?_
                        refine g_iconst (q0 := 229) rfl dX11_commitIs_228 (k := ?_)
                        exact g_ireturn dX11_commitIs_229 rfl ⟨Nat.zero_le _, Nat.zero_le _⟩ h
                      · replace h := wI_neg hs9 h
                        by_cases hs10 : a2 = 10
                        · replace h := wI_pos hs10 h
                          refine g_tabIn (off := 180) (tgt := 194) dX11_commitIs_14 (by omega) (by omega) (by rw [hs10]; rfl) (by decide) ?_
                          refine g_iload_n (q0 := 195) (j := 2) rfl dX11_commitIs_194 rfl ?_
                          refine g_bipush (q0 := 197) rfl dX11_commitIs_195 (k := ?_)
                          refine g_isubw (q0 := 198) rfl dX11_commitIs_197 ?_
                          refine g_aload_n (q0 := 199) (j := 0) rfl dX11_commitIs_198 rfl ?_
                          refine g_getp (q0 := 202) (b := 4) rfl ff_X11_27 dX11_commitIs_199 rfl hOK (by decide) (sh_0 hOK) rfl (by decide) ?_
                          refine g_getp (q0 := 205) (b := 5) rfl ff_X11_295 dX11_commitIs_202 rfl hOK (by decide) (sh_4 hOK) rfl (by decide) ?_
                          refine g_iload_n (q0 := 206) (j := 1) rfl dX11_commitIs_205 rfl ?_
                          obtain ⟨g3, h⟩ := h
                          refine g_iald (q0 := 207) rfl dX11_commitIs_206 (sh_5 hOK) g3.1 g3.2 ?_
                          refine g_icmp_ge (q0 := 210) (tgt := 225) rfl dX11_commitIs_207 (by decide) (fun h207 => ?_) (fun h207 => ?_)
                          · replace h := wI_neg (Int.not_lt.mpr h207) h
                            refine g_bipush (q0 := 227) rfl dX11_commitIs_225 (k := ?_)
                            exact g_ireturn dX11_commitIs_227 rfl ⟨Nat.zero_le _, Nat.zero_le _⟩ h
                          · replace h := wI_pos h207 h
                            refine g_aload_n (q0 := 211) (j := 0) rfl dX11_commitIs_210 rfl ?_
                            refine g_getp (q0 := 214) (b := 4) rfl ff_X11_27 dX11_commitIs_211 rfl hOK (by decide) (sh_0 hOK) rfl (by decide) ?_
                            refine g_iload_n (q0 := 215) (j := 1) rfl dX11_commitIs_214 rfl ?_
                            refine g_iload_n (q0 := 216) (j := 2) rfl dX11_commitIs_215 rfl ?_
                            refine g_bipush (q0 := 218) rfl dX11_commitIs_216 (k := ?_)
                            refine g_isubw (q0 := 219) rfl dX11_commitIs_218 ?_
                            obtain ⟨v219, e219, h⟩ := h
                            refine g_callVp (as := [_, _]) (rest := []) mt_X1_parent mi_X1_parent se_X1_parent ml_X11_314 dX11_commitIs_219 (q0 := 222) rfl rfl (sh_4 hOK) rfl rfl e219 rfl ⟨by decide, by decide⟩ (Nat.le_of_ble_eq_true rfl) ⟨Nat.zero_le _, Nat.zero_le _⟩ (fun _ => ?_)
                            refine g_goto (tgt := 227) dX11_commitIs_222 (by decide) ?_
                            exact g_ireturn dX11_commitIs_227 rfl ⟨Nat.zero_le _, Nat.zero_le _⟩ h
                        · replace h := wI_neg hs10 h
                          by_cases hs11 : a2 = 11
                          · replace h := wI_pos hs11 h
                            refine g_tabIn (off := 180) (tgt := 194) dX11_commitIs_14 (by omega) (by omega) (by rw [hs11]; rfl) (by decide) ?_
                            refine g_iload_n (q0 := 195) (j := 2) rfl dX11_commitIs_194 rfl ?_
                            refine g_bipush (q0 := 197) rfl dX11_commitIs_195 (k := ?_)
                            refine g_isubw (q0 := 198) rfl dX11_commitIs_197 ?_
                            refine g_aload_n (q0 := 199) (j := 0) rfl dX11_commitIs_198 rfl ?_
                            refine g_getp (q0 := 202) (b := 4) rfl ff_X11_27 dX11_commitIs_199 rfl hOK (by decide) (sh_0 hOK) rfl (by decide) ?_
                            refine g_getp (q0 := 205) (b := 5) rfl ff_X11_295 dX11_commitIs_202 rfl hOK (by decide) (sh_4 hOK) rfl (by decide) ?_
                            refine g_iload_n (q0 := 206) (j := 1) rfl dX11_commitIs_205 rfl ?_
                            obtain ⟨g2, h⟩ := h
                            refine g_iald (q0 := 207) rfl dX11_commitIs_206 (sh_5 hOK) g2.1 g2.2 ?_
                            refine g_icmp_ge (q0 := 210) (tgt := 225) rfl dX11_commitIs_207 (by decide) (fun h207 => ?_) (fun h207 => ?_)
                            · replace h := wI_neg (Int.not_lt.mpr h207) h
                              refine g_bipush (q0 := 227) rfl dX11_commitIs_225 (k := ?_)
                              exact g_ireturn dX11_commitIs_227 rfl ⟨Nat.zero_le _, Nat.zero_le _⟩ h
                            · replace h := wI_pos h207 h
                              refine g_aload_n (q0 := 211) (j := 0) rfl dX11_commitIs_210 rfl ?_
                              refine g_getp (q0 := 214) (b := 4) rfl ff_X11_27 dX11_commitIs_211 rfl hOK (by decide) (sh_0 hOK) rfl (by decide) ?_
                              refine g_iload_n (q0 := 215) (j := 1) rfl dX11_commitIs_214 rfl ?_
                              refine g_iload_n (q0 := 216) (j := 2) rfl dX11_commitIs_215 rfl ?_
                              refine g_bipush (q0 := 218) rfl dX11_commitIs_216 (k := ?_)
                              refine g_isubw (q0 := 219) rfl dX11_commitIs_218 ?_
                              obtain ⟨v219, e219, h⟩ := h
                              refine g_callVp (as := [_, _]) (rest := []) mt_X1_parent mi_X1_parent se_X1_parent ml_X11_314 dX11_commitIs_219 (q0 := 222) rfl rfl (sh_4 hOK) rfl rfl e219 rfl ⟨by decide, by decide⟩ (Nat.le_of_ble_eq_true rfl) ⟨Nat.zero_le _, Nat.zero_le _⟩ (fun _ => ?_)
                              refine g_goto (tgt := 227) dX11_commitIs_222 (by decide) ?_
                              exact g_ireturn dX11_commitIs_227 rfl ⟨Nat.zero_le _, Nat.zero_le _⟩ h
                          · replace h := wI_neg hs11 h
                            by_cases hs12 : a2 = 12
                            · replace h := wI_pos hs12 h
                              refine g_tabIn (off := 180) (tgt := 194) dX11_commitIs_14 (by omega) (by omega) (by rw [hs12]; rfl) (by decide) ?_
                              refine g_iload_n (q0 := 195) (j := 2) rfl dX11_commitIs_194 rfl ?_
                              refine g_bipush (q0 := 197) rfl dX11_commitIs_195 (k := ?_)
                              refine g_isubw (q0 := 198) rfl dX11_commitIs_197 ?_
                              refine g_aload_n (q0 := 199) (j := 0) rfl dX11_commitIs_198 rfl ?_
                              refine g_getp (q0 := 202) (b := 4) rfl ff_X11_27 dX11_commitIs_199 rfl hOK (by decide) (sh_0 hOK) rfl (by decide) ?_
                              refine g_getp (q0 := 205) (b := 5) rfl ff_X11_295 dX11_commitIs_202 rfl hOK (by decide) (sh_4 hOK) rfl (by decide) ?_
                              refine g_iload_n (q0 := 206) (j := 1) rfl dX11_commitIs_205 rfl ?_
                              obtain ⟨g1, h⟩ := h
                              refine g_iald (q0 := 207) rfl dX11_commitIs_206 (sh_5 hOK) g1.1 g1.2 ?_
                              refine g_icmp_ge (q0 := 210) (tgt := 225) rfl dX11_commitIs_207 (by decide) (fun h207 => ?_) (fun h207 => ?_)
                              · replace h := wI_neg (Int.not_lt.mpr h207) h
                                refine g_bipush (q0 := 227) rfl dX11_commitIs_225 (k := ?_)
                                exact g_ireturn dX11_commitIs_227 rfl ⟨Nat.zero_le _, Nat.zero_le _⟩ h
                              · replace h := wI_pos h207 h
                                refine g_aload_n (q0 := 211) (j := 0) rfl dX11_commitIs_210 rfl ?_
                                refine g_getp (q0 := 214) (b := 4) rfl ff_X11_27 dX11_commitIs_211 rfl hOK (by decide) (sh_0 hOK) rfl (by decide) ?_
                                refine g_iload_n (q0 := 215) (j := 1) rfl dX11_commitIs_214 rfl ?_
                                refine g_iload_n (q0 := 216) (j := 2) rfl dX11_commitIs_215 rfl ?_
                                refine g_bipush (q0 := 218) rfl dX11_commitIs_216 (k := ?_)
                                refine g_isubw (q0 := 219) rfl dX11_commitIs_218 ?_
                                obtain ⟨v219, e219, h⟩ := h
                                refine g_callVp (as := [_, _]) (rest := []) mt_X1_parent mi_X1_parent se_X1_parent ml_X11_314 dX11_commitIs_219 (q0 := 222) rfl rfl (sh_4 hOK) rfl rfl e219 rfl ⟨by decide, by decide⟩ (Nat.le_of_ble_eq_true rfl) ⟨Nat.zero_le _, Nat.zero_le _⟩ (fun _ => ?_)
                                refine g_goto (tgt := 227) dX11_commitIs_222 (by decide) ?_
                                exact g_ireturn dX11_commitIs_227 rfl ⟨Nat.zero_le _, Nat.zero_le _⟩ h
                            · replace h := wI_neg hs12 h
                              refine g_tabOut (tgt := 228) dX11_commitIs_14 (by omega) (by decide) ?_
                              refine g_iconst (q0 := 229) rfl dX11_commitIs_228 (k := ?_)
                              exact g_ireturn dX11_commitIs_229 rfl ⟨Nat.zero_le _, Nat.zero_le _⟩ h
  · replace h := wI_pos h8 h
    refine g_iconst (q0 := 12) rfl dX11_commitIs_11 (k := ?_)
    exact g_ireturn dX11_commitIs_12 rfl ⟨Nat.zero_le _, Nat.zero_le _⟩ h
-- ==== X11_look
theorem dX11_look_0 : decode cX11_look 0 = .ok (.aload_n 0, 1) := by decide +kernel
theorem dX11_look_1 : decode cX11_look 1 = .ok (.getfield 27, 3) := by decide +kernel
theorem dX11_look_4 : decode cX11_look 4 = .ok (.iload_n 1, 1) := by decide +kernel
theorem dX11_look_5 : decode cX11_look 5 = .ok (.invokevirtual 152, 3) := by decide +kernel
theorem dX11_look_8 : decode cX11_look 8 = .ok (.ifCond .eq 34, 3) := by decide +kernel
theorem dX11_look_11 : decode cX11_look 11 = .ok (.iload_n 3, 1) := by decide +kernel
theorem dX11_look_12 : decode cX11_look 12 = .ok (.ifCond .lt 30, 3) := by decide +kernel
theorem dX11_look_15 : decode cX11_look 15 = .ok (.iload_n 3, 1) := by decide +kernel
theorem dX11_look_16 : decode cX11_look 16 = .ok (.iconst 3, 1) := by decide +kernel
theorem dX11_look_17 : decode cX11_look 17 = .ok (.if_icmp .gt 25, 3) := by decide +kernel
theorem dX11_look_20 : decode cX11_look 20 = .ok (.iload_n 2, 1) := by decide +kernel
theorem dX11_look_21 : decode cX11_look 21 = .ok (.iconst 1, 1) := by decide +kernel
theorem dX11_look_22 : decode cX11_look 22 = .ok (.if_icmp .lt 20, 3) := by decide +kernel
theorem dX11_look_25 : decode cX11_look 25 = .ok (.iload_n 2, 1) := by decide +kernel
theorem dX11_look_26 : decode cX11_look 26 = .ok (.bipush 11, 2) := by decide +kernel
theorem dX11_look_28 : decode cX11_look 28 = .ok (.if_icmp .gt 14, 3) := by decide +kernel
theorem dX11_look_31 : decode cX11_look 31 = .ok (.iload_n 2, 1) := by decide +kernel
theorem dX11_look_32 : decode cX11_look 32 = .ok (.aload_n 0, 1) := by decide +kernel
theorem dX11_look_33 : decode cX11_look 33 = .ok (.getfield 10, 3) := by decide +kernel
theorem dX11_look_36 : decode cX11_look 36 = .ok (.getfield 103, 3) := by decide +kernel
theorem dX11_look_39 : decode cX11_look 39 = .ok (.if_icmp .le 5, 3) := by decide +kernel
theorem dX11_look_42 : decode cX11_look 42 = .ok (.iconst (-1), 1) := by decide +kernel
theorem dX11_look_43 : decode cX11_look 43 = .ok (.ireturn, 1) := by decide +kernel
theorem dX11_look_44 : decode cX11_look 44 = .ok (.aload_n 0, 1) := by decide +kernel
theorem dX11_look_45 : decode cX11_look 45 = .ok (.iload_n 2, 1) := by decide +kernel
theorem dX11_look_46 : decode cX11_look 46 = .ok (.invokevirtual 341, 3) := by decide +kernel
theorem dX11_look_49 : decode cX11_look 49 = .ok (.istore 4, 2) := by decide +kernel
theorem dX11_look_51 : decode cX11_look 51 = .ok (.aload_n 0, 1) := by decide +kernel
theorem dX11_look_52 : decode cX11_look 52 = .ok (.getfield 10, 3) := by decide +kernel
theorem dX11_look_55 : decode cX11_look 55 = .ok (.getfield 344, 3) := by decide +kernel
theorem dX11_look_58 : decode cX11_look 58 = .ok (.ifCond .eq 11, 3) := by decide +kernel
theorem dX11_look_61 : decode cX11_look 61 = .ok (.aload_n 0, 1) := by decide +kernel
theorem dX11_look_62 : decode cX11_look 62 = .ok (.getfield 10, 3) := by decide +kernel
theorem dX11_look_65 : decode cX11_look 65 = .ok (.getfield 344, 3) := by decide +kernel
theorem dX11_look_68 : decode cX11_look 68 = .ok (.ireturn, 1) := by decide +kernel
theorem dX11_look_69 : decode cX11_look 69 = .ok (.aload_n 0, 1) := by decide +kernel
theorem dX11_look_70 : decode cX11_look 70 = .ok (.getfield 27, 3) := by decide +kernel
theorem dX11_look_73 : decode cX11_look 73 = .ok (.iload_n 1, 1) := by decide +kernel
theorem dX11_look_74 : decode cX11_look 74 = .ok (.invokevirtual 155, 3) := by decide +kernel
theorem dX11_look_77 : decode cX11_look 77 = .ok (.astore 5, 2) := by decide +kernel
theorem dX11_look_79 : decode cX11_look 79 = .ok (.iload_n 3, 1) := by decide +kernel
theorem dX11_look_80 : decode cX11_look 80 = .ok (.tableswitch 92 0 2 #[28, 58, 66], 28) := by decide +kernel
theorem dX11_look_108 : decode cX11_look 108 = .ok (.aload 5, 2) := by decide +kernel
theorem dX11_look_110 : decode cX11_look 110 = .ok (.iload 4, 2) := by decide +kernel
theorem dX11_look_112 : decode cX11_look 112 = .ok (.invokevirtual 347, 3) := by decide +kernel
theorem dX11_look_115 : decode cX11_look 115 = .ok (.ifCond .lt 7, 3) := by decide +kernel
theorem dX11_look_118 : decode cX11_look 118 = .ok (.iconst 1, 1) := by decide +kernel
theorem dX11_look_119 : decode cX11_look 119 = .ok (.goto 18, 3) := by decide +kernel
theorem dX11_look_122 : decode cX11_look 122 = .ok (.aload 5, 2) := by decide +kernel
theorem dX11_look_124 : decode cX11_look 124 = .ok (.iload 4, 2) := by decide +kernel
theorem dX11_look_126 : decode cX11_look 126 = .ok (.invokevirtual 349, 3) := by decide +kernel
theorem dX11_look_129 : decode cX11_look 129 = .ok (.ifCond .eq 7, 3) := by decide +kernel
theorem dX11_look_132 : decode cX11_look 132 = .ok (.iconst 2, 1) := by decide +kernel
theorem dX11_look_133 : decode cX11_look 133 = .ok (.goto 4, 3) := by decide +kernel
theorem dX11_look_136 : decode cX11_look 136 = .ok (.iconst 0, 1) := by decide +kernel
theorem dX11_look_137 : decode cX11_look 137 = .ok (.ireturn, 1) := by decide +kernel
theorem dX11_look_138 : decode cX11_look 138 = .ok (.aload 5, 2) := by decide +kernel
theorem dX11_look_140 : decode cX11_look 140 = .ok (.iload 4, 2) := by decide +kernel
theorem dX11_look_142 : decode cX11_look 142 = .ok (.invokevirtual 352, 3) := by decide +kernel
theorem dX11_look_145 : decode cX11_look 145 = .ok (.ireturn, 1) := by decide +kernel
theorem dX11_look_146 : decode cX11_look 146 = .ok (.aload 5, 2) := by decide +kernel
theorem dX11_look_148 : decode cX11_look 148 = .ok (.iload 4, 2) := by decide +kernel
theorem dX11_look_150 : decode cX11_look 150 = .ok (.invokevirtual 349, 3) := by decide +kernel
theorem dX11_look_153 : decode cX11_look 153 = .ok (.ifCond .eq 17, 3) := by decide +kernel
theorem dX11_look_156 : decode cX11_look 156 = .ok (.aload 5, 2) := by decide +kernel
theorem dX11_look_158 : decode cX11_look 158 = .ok (.iload 4, 2) := by decide +kernel
theorem dX11_look_160 : decode cX11_look 160 = .ok (.invokevirtual 355, 3) := by decide +kernel
theorem dX11_look_163 : decode cX11_look 163 = .ok (.ifCond .eq 7, 3) := by decide +kernel
theorem dX11_look_166 : decode cX11_look 166 = .ok (.iconst 1, 1) := by decide +kernel
theorem dX11_look_167 : decode cX11_look 167 = .ok (.goto 4, 3) := by decide +kernel
theorem dX11_look_170 : decode cX11_look 170 = .ok (.iconst 0, 1) := by decide +kernel
theorem dX11_look_171 : decode cX11_look 171 = .ok (.ireturn, 1) := by decide +kernel
theorem dX11_look_172 : decode cX11_look 172 = .ok (.aload 5, 2) := by decide +kernel
theorem dX11_look_174 : decode cX11_look 174 = .ok (.iload 4, 2) := by decide +kernel
theorem dX11_look_176 : decode cX11_look 176 = .ok (.invokevirtual 358, 3) := by decide +kernel
theorem dX11_look_179 : decode cX11_look 179 = .ok (.ireturn, 1) := by decide +kernel
theorem w_X11_look {sh : gS} {Q : Option gV → gS → gM → Prop} {a1 a2 a3 : Int} {M : gM} (hOK : gOK sh M) (h : (∃ v5 : Int, gC (gr 0 0) yX1_has cX1_has 2 (some (.boolean)) [(4, 4), (0, a1)] sh M (gPp sh M (0, v5)) ∧
    (if v5 = 0 then
      (Q (some (0, -1)) sh M)
    else
      (if a3 < 0 then
        (Q (some (0, -1)) sh M)
      else
        (if (3 : Int) < a3 then
          (Q (some (0, -1)) sh M)
        else
          (if a2 < 1 then
            (Q (some (0, -1)) sh M)
          else
            (if (11 : Int) < a2 then
              (Q (some (0, -1)) sh M)
            else
              (if (M 1 1) < a2 then
                (Q (some (0, -1)) sh M)
              else
                (∃ P46 : Option gV → gM → Prop, gC (gr 2 45) yX11_readWholePath cX11_readWholePath 3 (some (.int)) [(4, 0), (0, a2)] sh M (gPm sh P46) ∧ ∀ (r46 : Option gV) (M46 : gM), P46 r46 M46 → ∃ v46 : Int, r46 = some (0, v46) ∧ gOK sh M46 ∧
                  (if (M46 1 4) = 0 then
                    (∃ v74 : Int, gC (gr 0 0) yX1_tree cX1_tree 2 (some (.object "CarriedHistory$Tree")) [(4, 4), (0, a1)] sh M46 (gPp sh M46 (4, v74)) ∧
                      (if a3 = 0 then
                        ((gsh sh v74 = some (0, 11) ∧ v74 < 758) ∧
                          (∃ v112 : Int, gC (gr 0 0) yX10_find cX10_find 3 (some (.int)) [(4, v74), (0, v46)] sh M46 (gPp sh M46 (0, v112)) ∧
                            (if v112 < 0 then
                              (∃ v126 : Int, gC (gr 1 23) yX10_hasFolder cX10_hasFolder 3 (some (.boolean)) [(4, v74), (0, v46)] sh M46 (gPp sh M46 (0, v126)) ∧
                                (if v126 = 0 then
                                  (Q (some (0, 0)) sh M46)
                                else
                                  (Q (some (0, 2)) sh M46)))
                            else
                              (Q (some (0, 1)) sh M46))))
                      else
                        (if a3 = 1 then
                          ((gsh sh v74 = some (0, 11) ∧ v74 < 758) ∧
                            (∃ v142 : Int, gC (gr 1 23) yX10_filesAt cX10_filesAt 4 (some (.int)) [(4, v74), (0, v46)] sh M46 (gPp sh M46 (0, v142)) ∧
                              (Q (some (0, v142)) sh M46)))
                        else
                          (if a3 = 2 then
                            ((gsh sh v74 = some (0, 11) ∧ v74 < 758) ∧
                              (∃ v150 : Int, gC (gr 1 23) yX10_hasFolder cX10_hasFolder 3 (some (.boolean)) [(4, v74), (0, v46)] sh M46 (gPp sh M46 (0, v150)) ∧
                                (if v150 = 0 then
                                  (Q (some (0, 0)) sh M46)
                                else
                                  (∃ v160 : Int, gC (gr 1 23) yX10_hasFilesAlone cX10_hasFilesAlone 4 (some (.boolean)) [(4, v74), (0, v46)] sh M46 (gPp sh M46 (0, v160)) ∧
                                    (if v160 = 0 then
                                      (Q (some (0, 0)) sh M46)
                                    else
                                      (Q (some (0, 1)) sh M46))))))
                          else
                            ((gsh sh v74 = some (0, 11) ∧ v74 < 758) ∧
                              (∃ v176 : Int, gC (gr 1 23) yX10_entriesIn cX10_entriesIn 7 (some (.int)) [(4, v74), (0, v46)] sh M46 (gPp sh M46 (0, v176)) ∧
                                (Q (some (0, v176)) sh M46)))))))
                  else
                    (Q (some (0, (M46 1 4))) sh M46))))))))))) : gC (gr 3 67) yX11_look cX11_look 6 (some (.int)) [(4, 0), (0, a1), (0, a2), (0, a3)] sh M Q := by
  refine gC_ofA (lv := [_, _, _, _, _, _]) (by decide +kernel) (Nat.le_of_ble_eq_true rfl) rfl (fun hMw hav => ?_)
  refine g_aload_n (q0 := 1) (j := 0) rfl dX11_look_0 rfl ?_
  refine g_getp (q0 := 4) (b := 4) rfl ff_X11_27 dX11_look_1 rfl hOK (by decide) (sh_0 hOK) rfl (by decide) ?_
  refine g_iload_n (q0 := 5) (j := 1) rfl dX11_look_4 rfl ?_
  obtain ⟨v5, e5, h⟩ := h
  refine g_callVp (as := [_]) (rest := []) mt_X1_has mi_X1_has se_X1_has ml_X11_152 dX11_look_5 (q0 := 8) rfl rfl (sh_4 hOK) rfl rfl e5 rfl ⟨by decide, by decide⟩ (Nat.le_of_ble_eq_true rfl) ⟨Nat.zero_le _, Nat.zero_le _⟩ (fun _ => ?_)
  refine g_if_eq (q0 := 11) (tgt := 42) rfl dX11_look_8 (by decide) (fun h8 => ?_) (fun h8 => ?_)
  · replace h := wI_pos h8 h
    refine g_iconst (q0 := 43) rfl dX11_look_42 (k := ?_)
    exact g_ireturn dX11_look_43 rfl ⟨Nat.zero_le _, Nat.zero_le _⟩ h
  · replace h := wI_neg h8 h
    refine g_iload_n (q0 := 12) (j := 3) rfl dX11_look_11 rfl ?_
    refine g_if_lt (q0 := 15) (tgt := 42) rfl dX11_look_12 (by decide) (fun h12 => ?_) (fun h12 => ?_)
    · replace h := wI_pos h12 h
      refine g_iconst (q0 := 43) rfl dX11_look_42 (k := ?_)
      exact g_ireturn dX11_look_43 rfl ⟨Nat.zero_le _, Nat.zero_le _⟩ h
    · replace h := wI_neg (Int.not_lt.mpr h12) h
      refine g_iload_n (q0 := 16) (j := 3) rfl dX11_look_15 rfl ?_
      refine g_iconst (q0 := 17) rfl dX11_look_16 (k := ?_)
      refine g_icmp_gt (q0 := 20) (tgt := 42) rfl dX11_look_17 (by decide) (fun h17 => ?_) (fun h17 => ?_)
      · replace h := wI_pos h17 h
        refine g_iconst (q0 := 43) rfl dX11_look_42 (k := ?_)
        exact g_ireturn dX11_look_43 rfl ⟨Nat.zero_le _, Nat.zero_le _⟩ h
      · replace h := wI_neg (Int.not_lt.mpr h17) h
        refine g_iload_n (q0 := 21) (j := 2) rfl dX11_look_20 rfl ?_
        refine g_iconst (q0 := 22) rfl dX11_look_21 (k := ?_)
        refine g_icmp_lt (q0 := 25) (tgt := 42) rfl dX11_look_22 (by decide) (fun h22 => ?_) (fun h22 => ?_)
        · replace h := wI_pos h22 h
          refine g_iconst (q0 := 43) rfl dX11_look_42 (k := ?_)
          exact g_ireturn dX11_look_43 rfl ⟨Nat.zero_le _, Nat.zero_le _⟩ h
        · replace h := wI_neg (Int.not_lt.mpr h22) h
          refine g_iload_n (q0 := 26) (j := 2) rfl dX11_look_25 rfl ?_
          refine g_bipush (q0 := 28) rfl dX11_look_26 (k := ?_)
          refine g_icmp_gt (q0 := 31) (tgt := 42) rfl dX11_look_28 (by decide) (fun h28 => ?_) (fun h28 => ?_)
          · replace h := wI_pos h28 h
            refine g_iconst (q0 := 43) rfl dX11_look_42 (k := ?_)
            exact g_ireturn dX11_look_43 rfl ⟨Nat.zero_le _, Nat.zero_le _⟩ h
          · replace h := wI_neg (Int.not_lt.mpr h28) h
            refine g_iload_n (q0 := 32) (j := 2) rfl dX11_look_31 rfl ?_
            refine g_aload_n (q0 := 33) (j := 0) rfl dX11_look_32 rfl ?_
            refine g_getp (q0 := 36) (b := 1) rfl ff_X11_10 dX11_look_33 rfl hOK (by decide) (sh_0 hOK) rfl (by decide) ?_
            refine g_getf (q0 := 39) (t := 0) (fi := 1) rfl rfl ff_X11_103 dX11_look_36 rfl (sh_1 hOK) ?_
            refine g_icmp_le (q0 := 42) (tgt := 44) rfl dX11_look_39 (by decide) (fun h39 => ?_) (fun h39 => ?_)
            · replace h := wI_neg (Int.not_lt.mpr h39) h
              refine g_aload_n (q0 := 45) (j := 0) rfl dX11_look_44 rfl ?_
              refine g_iload_n (q0 := 46) (j := 2) rfl dX11_look_45 rfl ?_
              obtain ⟨P46, e46, h⟩ := h
              refine g_callVm (as := [_]) (rest := []) mt_X11_readWholePath mi_X11_readWholePath se_X11_readWholePath ml_X11_341 dX11_look_46 (q0 := 49) rfl rfl (sh_0 hOK) rfl rfl e46 rfl ⟨by decide, by decide⟩ (Nat.le_of_ble_eq_true rfl) ⟨Nat.zero_le _, Nat.zero_le _⟩ (fun r46 M46 hP46 hw46 hMw46 => ?_)
              obtain ⟨v46, hr46, hOK1, h⟩ := h r46 M46 hP46
              subst hr46
              refine g_istore (q0 := 51) (j := 4) (lv2 := [_, _, _, _, _, _]) rfl dX11_look_49 (by decide) rfl rfl ?_
              refine g_aload_n (q0 := 52) (j := 0) rfl dX11_look_51 rfl ?_
              refine g_getp (q0 := 55) (b := 1) rfl ff_X11_10 dX11_look_52 rfl hOK1 (by decide) (sh_0 hOK1) rfl (by decide) ?_
              refine g_getf (q0 := 58) (t := 0) (fi := 4) rfl rfl ff_X11_344 dX11_look_55 rfl (sh_1 hOK1) ?_
              refine g_if_eq (q0 := 61) (tgt := 69) rfl dX11_look_58 (by decide) (fun h58 => ?_) (fun h58 => ?_)
              · replace h := wI_pos h58 h
                refine g_aload_n (q0 := 70) (j := 0) rfl dX11_look_69 rfl ?_
                refine g_getp (q0 := 73) (b := 4) rfl ff_X11_27 dX11_look_70 rfl hOK1 (by decide) (sh_0 hOK1) rfl (by decide) ?_
                refine g_iload_n (q0 := 74) (j := 1) rfl dX11_look_73 rfl ?_
                obtain ⟨v74, e74, h⟩ := h
                refine g_callVp (as := [_]) (rest := []) mt_X1_tree mi_X1_tree se_X1_tree ml_X11_155 dX11_look_74 (q0 := 77) rfl rfl (sh_4 hOK1) rfl rfl e74 rfl ⟨by decide, by decide⟩ (Nat.le_of_ble_eq_true rfl) ⟨Nat.zero_le _, Nat.zero_le _⟩ (fun _ => ?_)
                refine g_astore (q0 := 79) (j := 5) (lv2 := [_, _, _, _, _, _]) rfl dX11_look_77 (by decide) rfl rfl ?_
                refine g_iload_n (q0 := 80) (j := 3) rfl dX11_look_79 rfl ?_
                by_cases hs0 : a3 = 0
                · replace h := wI_pos hs0 h
                  refine g_tabIn (off := 28) (tgt := 108) dX11_look_80 (by omega) (by omega) (by rw [hs0]; rfl) (by decide) ?_
                  refine g_aload (q0 := 110) (j := 5) rfl dX11_look_108 rfl ?_
                  refine g_iload (q0 := 112) (j := 4) rfl dX11_look_110 rfl ?_
                  obtain ⟨g5, h⟩ := h
                  obtain ⟨v112, e112, h⟩ := h
                  refine g_callVp (as := [_]) (rest := []) mt_X10_find mi_X10_find se_X10_find ml_X11_347 dX11_look_112 (q0 := 115) rfl rfl g5.1 rfl rfl e112 rfl ⟨by decide, by decide⟩ (Nat.le_of_ble_eq_true rfl) ⟨Nat.zero_le _, Nat.zero_le _⟩ (fun _ => ?_)
                  refine g_if_lt (q0 := 118) (tgt := 122) rfl dX11_look_115 (by decide) (fun h115 => ?_) (fun h115 => ?_)
                  · replace h := wI_pos h115 h
                    refine g_aload (q0 := 124) (j := 5) rfl dX11_look_122 rfl ?_
                    refine g_iload (q0 := 126) (j := 4) rfl dX11_look_124 rfl ?_
                    obtain ⟨v126, e126, h⟩ := h
                    refine g_callVp (as := [_]) (rest := []) mt_X10_hasFolder mi_X10_hasFolder se_X10_hasFolder ml_X11_349 dX11_look_126 (q0 := 129) rfl rfl g5.1 rfl rfl e126 rfl ⟨by decide, by decide⟩ (Nat.le_of_ble_eq_true rfl) ⟨Nat.zero_le _, Nat.zero_le _⟩ (fun _ => ?_)
                    refine g_if_eq (q0 := 132) (tgt := 136) rfl dX11_look_129 (by decide) (fun h129 => ?_) (fun h129 => ?_)
                    · replace h := wI_pos h129 h
                      refine g_iconst (q0 := 137) rfl dX11_look_136 (k := ?_)
                      exact g_ireturn dX11_look_137 rfl ⟨Nat.zero_le _, Nat.zero_le _⟩ h
                    · replace h := wI_neg h129 h
                      refine g_iconst (q0 := 133) rfl dX11_look_132 (k := ?_)
                      refine g_goto (tgt := 137) dX11_look_133 (by decide) ?_
                      exact g_ireturn dX11_look_137 rfl ⟨Nat.zero_le _, Nat.zero_le _⟩ h
                  · replace h := wI_neg (Int.not_lt.mpr h115) h
                    refine g_iconst (q0 := 119) rfl dX11_look_118 (k := ?_)
                    refine g_goto (tgt := 137) dX11_look_119 (by decide) ?_
                    exact g_ireturn dX11_look_137 rfl ⟨Nat.zero_le _, Nat.zero_le _⟩ h
                · replace h := wI_neg hs0 h
                  by_cases hs1 : a3 = 1
                  · replace h := wI_pos hs1 h
                    refine g_tabIn (off := 58) (tgt := 138) dX11_look_80 (by omega) (by omega) (by rw [hs1]; rfl) (by decide) ?_
                    refine g_aload (q0 := 140) (j := 5) rfl dX11_look_138 rfl ?_
                    refine g_iload (q0 := 142) (j := 4) rfl dX11_look_140 rfl ?_
                    obtain ⟨g4, h⟩ := h
                    obtain ⟨v142, e142, h⟩ := h
                    refine g_callVp (as := [_]) (rest := []) mt_X10_filesAt mi_X10_filesAt se_X10_filesAt ml_X11_352 dX11_look_142 (q0 := 145) rfl rfl g4.1 rfl rfl e142 rfl ⟨by decide, by decide⟩ (Nat.le_of_ble_eq_true rfl) ⟨Nat.zero_le _, Nat.zero_le _⟩ (fun _ => ?_)
                    exact g_ireturn dX11_look_145 rfl ⟨Nat.zero_le _, Nat.zero_le _⟩ h
                  · replace h := wI_neg hs1 h
                    by_cases hs2 : a3 = 2
                    · replace h := wI_pos hs2 h
                      refine g_tabIn (off := 66) (tgt := 146) dX11_look_80 (by omega) (by omega) (by rw [hs2]; rfl) (by decide) ?_
                      refine g_aload (q0 := 148) (j := 5) rfl dX11_look_146 rfl ?_
                      refine g_iload (q0 := 150) (j := 4) rfl dX11_look_148 rfl ?_
                      obtain ⟨g3, h⟩ := h
                      obtain ⟨v150, e150, h⟩ := h
                      refine g_callVp (as := [_]) (rest := []) mt_X10_hasFolder mi_X10_hasFolder se_X10_hasFolder ml_X11_349 dX11_look_150 (q0 := 153) rfl rfl g3.1 rfl rfl e150 rfl ⟨by decide, by decide⟩ (Nat.le_of_ble_eq_true rfl) ⟨Nat.zero_le _, Nat.zero_le _⟩ (fun _ => ?_)
                      refine g_if_eq (q0 := 156) (tgt := 170) rfl dX11_look_153 (by decide) (fun h153 => ?_) (fun h153 => ?_)
                      · replace h := wI_pos h153 h
                        refine g_iconst (q0 := 171) rfl dX11_look_170 (k := ?_)
                        exact g_ireturn dX11_look_171 rfl ⟨Nat.zero_le _, Nat.zero_le _⟩ h
                      · replace h := wI_neg h153 h
                        refine g_aload (q0 := 158) (j := 5) rfl dX11_look_156 rfl ?_
                        refine g_iload (q0 := 160) (j := 4) rfl dX11_look_158 rfl ?_
                        obtain ⟨v160, e160, h⟩ := h
                        refine g_callVp (as := [_]) (rest := []) mt_X10_hasFilesAlone mi_X10_hasFilesAlone se_X10_hasFilesAlone ml_X11_355 dX11_look_160 (q0 := 163) rfl rfl g3.1 rfl rfl e160 rfl ⟨by decide, by decide⟩ (Nat.le_of_ble_eq_true rfl) ⟨Nat.zero_le _, Nat.zero_le _⟩ (fun _ => ?_)
                        refine g_if_eq (q0 := 166) (tgt := 170) rfl dX11_look_163 (by decide) (fun h163 => ?_) (fun h163 => ?_)
                        · replace h := wI_pos h163 h
                          refine g_iconst (q0 := 171) rfl dX11_look_170 (k := ?_)
                          exact g_ireturn dX11_look_171 rfl ⟨Nat.zero_le _, Nat.zero_le _⟩ h
                        · replace h := wI_neg h163 h
                          refine g_iconst (q0 := 167) rfl dX11_look_166 (k := ?_)
                          refine g_goto (tgt := 171) dX11_look_167 (by decide) ?_
                          exact g_ireturn dX11_look_171 rfl ⟨Nat.zero_le _, Nat.zero_le _⟩ h
                    · replace h := wI_neg hs2 h
                      refine g_tabOut (tgt := 172) dX11_look_80 (by omega) (by decide) ?_
                      refine g_aload (q0 := 174) (j := 5) rfl dX11_look_172 rfl ?_
                      refine g_iload (q0 := 176) (j := 4) rfl dX11_look_174 rfl ?_
                      obtain ⟨g2, h⟩ := h
                      obtain ⟨v176, e176, h⟩ := h
                      refine g_callVp (as := [_]) (rest := []) mt_X10_entriesIn mi_X10_entriesIn se_X10_entriesIn ml_X11_358 dX11_look_176 (q0 := 179) rfl rfl g2.1 rfl rfl e176 rfl ⟨by decide, by decide⟩ (Nat.le_of_ble_eq_true rfl) ⟨Nat.zero_le _, Nat.zero_le _⟩ (fun _ => ?_)
                      exact g_ireturn dX11_look_179 rfl ⟨Nat.zero_le _, Nat.zero_le _⟩ h
              · replace h := wI_neg h58 h
                refine g_aload_n (q0 := 62) (j := 0) rfl dX11_look_61 rfl ?_
                refine g_getp (q0 := 65) (b := 1) rfl ff_X11_10 dX11_look_62 rfl hOK1 (by decide) (sh_0 hOK1) rfl (by decide) ?_
                refine g_getf (q0 := 68) (t := 0) (fi := 4) rfl rfl ff_X11_344 dX11_look_65 rfl (sh_1 hOK1) ?_
                exact g_ireturn dX11_look_68 rfl ⟨Nat.zero_le _, Nat.zero_le _⟩ h
            · replace h := wI_pos h39 h
              refine g_iconst (q0 := 43) rfl dX11_look_42 (k := ?_)
              exact g_ireturn dX11_look_43 rfl ⟨Nat.zero_le _, Nat.zero_le _⟩ h
-- ==== X11_touches
theorem dX11_touches_0 : decode cX11_touches 0 = .ok (.iload_n 1, 1) := by decide +kernel
theorem dX11_touches_1 : decode cX11_touches 1 = .ok (.invokestatic 166, 3) := by decide +kernel
theorem dX11_touches_4 : decode cX11_touches 4 = .ok (.ifCond .eq 25, 3) := by decide +kernel
theorem dX11_touches_7 : decode cX11_touches 7 = .ok (.iload_n 2, 1) := by decide +kernel
theorem dX11_touches_8 : decode cX11_touches 8 = .ok (.iconst 1, 1) := by decide +kernel
theorem dX11_touches_9 : decode cX11_touches 9 = .ok (.if_icmp .lt 20, 3) := by decide +kernel
theorem dX11_touches_12 : decode cX11_touches 12 = .ok (.iload_n 2, 1) := by decide +kernel
theorem dX11_touches_13 : decode cX11_touches 13 = .ok (.bipush 11, 2) := by decide +kernel
theorem dX11_touches_15 : decode cX11_touches 15 = .ok (.if_icmp .gt 14, 3) := by decide +kernel
theorem dX11_touches_18 : decode cX11_touches 18 = .ok (.iload_n 2, 1) := by decide +kernel
theorem dX11_touches_19 : decode cX11_touches 19 = .ok (.aload_n 0, 1) := by decide +kernel
theorem dX11_touches_20 : decode cX11_touches 20 = .ok (.getfield 10, 3) := by decide +kernel
theorem dX11_touches_23 : decode cX11_touches 23 = .ok (.getfield 103, 3) := by decide +kernel
theorem dX11_touches_26 : decode cX11_touches 26 = .ok (.if_icmp .le 5, 3) := by decide +kernel
theorem dX11_touches_29 : decode cX11_touches 29 = .ok (.iconst (-1), 1) := by decide +kernel
theorem dX11_touches_30 : decode cX11_touches 30 = .ok (.ireturn, 1) := by decide +kernel
theorem dX11_touches_31 : decode cX11_touches 31 = .ok (.aload_n 0, 1) := by decide +kernel
theorem dX11_touches_32 : decode cX11_touches 32 = .ok (.iload_n 2, 1) := by decide +kernel
theorem dX11_touches_33 : decode cX11_touches 33 = .ok (.invokevirtual 341, 3) := by decide +kernel
theorem dX11_touches_36 : decode cX11_touches 36 = .ok (.istore_n 3, 1) := by decide +kernel
theorem dX11_touches_37 : decode cX11_touches 37 = .ok (.aload_n 0, 1) := by decide +kernel
theorem dX11_touches_38 : decode cX11_touches 38 = .ok (.getfield 10, 3) := by decide +kernel
theorem dX11_touches_41 : decode cX11_touches 41 = .ok (.getfield 344, 3) := by decide +kernel
theorem dX11_touches_44 : decode cX11_touches 44 = .ok (.ifCond .eq 11, 3) := by decide +kernel
theorem dX11_touches_47 : decode cX11_touches 47 = .ok (.aload_n 0, 1) := by decide +kernel
theorem dX11_touches_48 : decode cX11_touches 48 = .ok (.getfield 10, 3) := by decide +kernel
theorem dX11_touches_51 : decode cX11_touches 51 = .ok (.getfield 344, 3) := by decide +kernel
theorem dX11_touches_54 : decode cX11_touches 54 = .ok (.ireturn, 1) := by decide +kernel
theorem dX11_touches_55 : decode cX11_touches 55 = .ok (.aload_n 0, 1) := by decide +kernel
theorem dX11_touches_56 : decode cX11_touches 56 = .ok (.getfield 27, 3) := by decide +kernel
theorem dX11_touches_59 : decode cX11_touches 59 = .ok (.aload_n 0, 1) := by decide +kernel
theorem dX11_touches_60 : decode cX11_touches 60 = .ok (.getfield 37, 3) := by decide +kernel
theorem dX11_touches_63 : decode cX11_touches 63 = .ok (.iload_n 1, 1) := by decide +kernel
theorem dX11_touches_64 : decode cX11_touches 64 = .ok (.aaload, 1) := by decide +kernel
theorem dX11_touches_65 : decode cX11_touches 65 = .ok (.aload_n 0, 1) := by decide +kernel
theorem dX11_touches_66 : decode cX11_touches 66 = .ok (.getfield 74, 3) := by decide +kernel
theorem dX11_touches_69 : decode cX11_touches 69 = .ok (.iconst 0, 1) := by decide +kernel
theorem dX11_touches_70 : decode cX11_touches 70 = .ok (.invokevirtual 361, 3) := by decide +kernel
theorem dX11_touches_73 : decode cX11_touches 73 = .ok (.iconst 0, 1) := by decide +kernel
theorem dX11_touches_74 : decode cX11_touches 74 = .ok (.istore 4, 2) := by decide +kernel
theorem dX11_touches_76 : decode cX11_touches 76 = .ok (.iconst 0, 1) := by decide +kernel
theorem dX11_touches_77 : decode cX11_touches 77 = .ok (.istore 5, 2) := by decide +kernel
theorem dX11_touches_79 : decode cX11_touches 79 = .ok (.iload 5, 2) := by decide +kernel
theorem dX11_touches_81 : decode cX11_touches 81 = .ok (.aload_n 0, 1) := by decide +kernel
theorem dX11_touches_82 : decode cX11_touches 82 = .ok (.getfield 27, 3) := by decide +kernel
theorem dX11_touches_85 : decode cX11_touches 85 = .ok (.getfield 135, 3) := by decide +kernel
theorem dX11_touches_88 : decode cX11_touches 88 = .ok (.if_icmp .ge 35, 3) := by decide +kernel
theorem dX11_touches_91 : decode cX11_touches 91 = .ok (.aload_n 0, 1) := by decide +kernel
theorem dX11_touches_92 : decode cX11_touches 92 = .ok (.getfield 74, 3) := by decide +kernel
theorem dX11_touches_95 : decode cX11_touches 95 = .ok (.iconst 0, 1) := by decide +kernel
theorem dX11_touches_96 : decode cX11_touches 96 = .ok (.iload 5, 2) := by decide +kernel
theorem dX11_touches_98 : decode cX11_touches 98 = .ok (.invokevirtual 365, 3) := by decide +kernel
theorem dX11_touches_101 : decode cX11_touches 101 = .ok (.ifCond .eq 16, 3) := by decide +kernel
theorem dX11_touches_104 : decode cX11_touches 104 = .ok (.aload_n 0, 1) := by decide +kernel
theorem dX11_touches_105 : decode cX11_touches 105 = .ok (.iload 5, 2) := by decide +kernel
theorem dX11_touches_107 : decode cX11_touches 107 = .ok (.iload_n 3, 1) := by decide +kernel
theorem dX11_touches_108 : decode cX11_touches 108 = .ok (.invokevirtual 367, 3) := by decide +kernel
theorem dX11_touches_111 : decode cX11_touches 111 = .ok (.ifCond .eq 6, 3) := by decide +kernel
theorem dX11_touches_114 : decode cX11_touches 114 = .ok (.iinc 4 1, 3) := by decide +kernel
theorem dX11_touches_117 : decode cX11_touches 117 = .ok (.iinc 5 1, 3) := by decide +kernel
theorem dX11_touches_120 : decode cX11_touches 120 = .ok (.goto (-41), 3) := by decide +kernel
theorem dX11_touches_123 : decode cX11_touches 123 = .ok (.iload 4, 2) := by decide +kernel
theorem dX11_touches_125 : decode cX11_touches 125 = .ok (.ireturn, 1) := by decide +kernel
def P_X11_touches_79 (sh : gS) (Q : Option gV → gS → gM → Prop) (x1 x2 x3 x4 x5 : Int) (M : gM) : Prop := gA (gr 4 92) yX11_touches cX11_touches 6 (some (.int)) Q (0, 0) 79 [(4, 0), (0, x1), (0, x2), (0, x3), (0, x4), (0, x5)] [] sh M
theorem w_X11_touches_79 {sh : gS} {Q : Option gV → gS → gM → Prop} {x1 x2 x3 x4 x5 : Int} {M : gM} (hOK : gOK sh M) (h : (if x5 < (M 4 0) then
    (∃ v98 : Int, gC (gr 0 0) yX3_has cX3_has 3 (some (.boolean)) [(4, 470), (0, 0), (0, x5)] sh M (gPp sh M (0, v98)) ∧
      (if v98 = 0 then
        (P_X11_touches_79 sh Q x1 x2 x3 x4 (gw32 (x5 + 1)) M)
      else
        (∃ v108 : Int, gC (gr 3 69) yX11_isTouched cX11_isTouched 4 (some (.boolean)) [(4, 0), (0, x5), (0, x3)] sh M (gPp sh M (0, v108)) ∧
          (if v108 = 0 then
            (P_X11_touches_79 sh Q x1 x2 x3 x4 (gw32 (x5 + 1)) M)
          else
            (P_X11_touches_79 sh Q x1 x2 x3 (gw32 (x4 + 1)) (gw32 (x5 + 1)) M)))))
  else
    (Q (some (0, x4)) sh M))) : P_X11_touches_79 sh Q x1 x2 x3 x4 x5 M := by
  unfold P_X11_touches_79
  refine g_iload (q0 := 81) (j := 5) rfl dX11_touches_79 rfl ?_
  refine g_aload_n (q0 := 82) (j := 0) rfl dX11_touches_81 rfl ?_
  refine g_getp (q0 := 85) (b := 4) rfl ff_X11_27 dX11_touches_82 rfl hOK (by decide) (sh_0 hOK) rfl (by decide) ?_
  refine g_getf (q0 := 88) (t := 0) (fi := 0) rfl rfl ff_X11_135 dX11_touches_85 rfl (sh_4 hOK) ?_
  refine g_icmp_ge (q0 := 91) (tgt := 123) rfl dX11_touches_88 (by decide) (fun h88 => ?_) (fun h88 => ?_)
  · replace h := wI_neg (Int.not_lt.mpr h88) h
    refine g_iload (q0 := 125) (j := 4) rfl dX11_touches_123 rfl ?_
    exact g_ireturn dX11_touches_125 rfl ⟨Nat.zero_le _, Nat.zero_le _⟩ h
  · replace h := wI_pos h88 h
    refine g_aload_n (q0 := 92) (j := 0) rfl dX11_touches_91 rfl ?_
    refine g_getp (q0 := 95) (b := 470) rfl ff_X11_74 dX11_touches_92 rfl hOK (by decide) (sh_0 hOK) rfl (by decide) ?_
    refine g_iconst (q0 := 96) rfl dX11_touches_95 (k := ?_)
    refine g_iload (q0 := 98) (j := 5) rfl dX11_touches_96 rfl ?_
    obtain ⟨v98, e98, h⟩ := h
    refine g_callVp (as := [_, _]) (rest := []) mt_X3_has mi_X3_has se_X3_has ml_X11_365 dX11_touches_98 (q0 := 101) rfl rfl (sh_470 hOK) rfl rfl e98 rfl ⟨by decide, by decide⟩ (Nat.le_of_ble_eq_true rfl) ⟨Nat.zero_le _, Nat.zero_le _⟩ (fun _ => ?_)
    refine g_if_eq (q0 := 104) (tgt := 117) rfl dX11_touches_101 (by decide) (fun h101 => ?_) (fun h101 => ?_)
    · replace h := wI_pos h101 h
      refine g_iincw (q0 := 120) (lv2 := [_, _, _, _, _, _]) rfl dX11_touches_117 rfl (by decide) rfl rfl ?_
      refine g_goto (tgt := 79) dX11_touches_120 (by decide) ?_
      exact h
    · replace h := wI_neg h101 h
      refine g_aload_n (q0 := 105) (j := 0) rfl dX11_touches_104 rfl ?_
      refine g_iload (q0 := 107) (j := 5) rfl dX11_touches_105 rfl ?_
      refine g_iload_n (q0 := 108) (j := 3) rfl dX11_touches_107 rfl ?_
      obtain ⟨v108, e108, h⟩ := h
      refine g_callVp (as := [_, _]) (rest := []) mt_X11_isTouched mi_X11_isTouched se_X11_isTouched ml_X11_367 dX11_touches_108 (q0 := 111) rfl rfl (sh_0 hOK) rfl rfl e108 rfl ⟨by decide, by decide⟩ (Nat.le_of_ble_eq_true rfl) ⟨Nat.zero_le _, Nat.zero_le _⟩ (fun _ => ?_)
      refine g_if_eq (q0 := 114) (tgt := 117) rfl dX11_touches_111 (by decide) (fun h111 => ?_) (fun h111 => ?_)
      · replace h := wI_pos h111 h
        refine g_iincw (q0 := 120) (lv2 := [_, _, _, _, _, _]) rfl dX11_touches_117 rfl (by decide) rfl rfl ?_
        refine g_goto (tgt := 79) dX11_touches_120 (by decide) ?_
        exact h
      · replace h := wI_neg h111 h
        refine g_iincw (q0 := 117) (lv2 := [_, _, _, _, _, _]) rfl dX11_touches_114 rfl (by decide) rfl rfl ?_
        refine g_iincw (q0 := 120) (lv2 := [_, _, _, _, _, _]) rfl dX11_touches_117 rfl (by decide) rfl rfl ?_
        refine g_goto (tgt := 79) dX11_touches_120 (by decide) ?_
        exact h
theorem w_X11_touches {sh : gS} {Q : Option gV → gS → gM → Prop} {a1 a2 : Int} {M : gM} (hOK : gOK sh M) (h : (∃ v1 : Int, gC (gr 0 0) yX11_isHistory cX11_isHistory 1 (some (.boolean)) [(0, a1)] sh M (gPp sh M (0, v1)) ∧
    (if v1 = 0 then
      (Q (some (0, -1)) sh M)
    else
      (if a2 < 1 then
        (Q (some (0, -1)) sh M)
      else
        (if (11 : Int) < a2 then
          (Q (some (0, -1)) sh M)
        else
          (if (M 1 1) < a2 then
            (Q (some (0, -1)) sh M)
          else
            (∃ P33 : Option gV → gM → Prop, gC (gr 2 45) yX11_readWholePath cX11_readWholePath 3 (some (.int)) [(4, 0), (0, a2)] sh M (gPm sh P33) ∧ ∀ (r33 : Option gV) (M33 : gM), P33 r33 M33 → ∃ v33 : Int, r33 = some (0, v33) ∧ gOK sh M33 ∧
              (if (M33 1 4) = 0 then
                ((0 ≤ a1 ∧ a1 < 4) ∧
                  (∃ P70 : Option gV → gM → Prop, gC (gr 1 23) yX1_markHistory cX1_markHistory 5 none [(4, 4), (4, (479 + 10 * a1)), (4, 470), (0, 0)] sh M33 (gPm sh P70) ∧ ∀ (r70 : Option gV) (M70 : gM), P70 r70 M70 → r70 = none ∧ gOK sh M70 ∧
                    (P_X11_touches_79 sh Q a1 a2 v33 0 0 M70)))
              else
                (Q (some (0, (M33 1 4))) sh M33))))))))) : gC (gr 4 92) yX11_touches cX11_touches 6 (some (.int)) [(4, 0), (0, a1), (0, a2)] sh M Q := by
  refine gC_ofA (lv := [_, _, _, _, _, _]) (by decide +kernel) (Nat.le_of_ble_eq_true rfl) rfl (fun hMw hav => ?_)
  refine g_iload_n (q0 := 1) (j := 1) rfl dX11_touches_0 rfl ?_
  obtain ⟨v1, e1, h⟩ := h
  refine g_callSp (as := [_]) (rest := []) mt_X11_isHistory ms_X11_isHistory ml_X11_166 dX11_touches_1 (q0 := 4) rfl rfl e1 rfl ⟨by decide, by decide⟩ (Nat.le_of_ble_eq_true rfl) ⟨Nat.zero_le _, Nat.zero_le _⟩ (fun _ => ?_)
  refine g_if_eq (q0 := 7) (tgt := 29) rfl dX11_touches_4 (by decide) (fun h4 => ?_) (fun h4 => ?_)
  · replace h := wI_pos h4 h
    refine g_iconst (q0 := 30) rfl dX11_touches_29 (k := ?_)
    exact g_ireturn dX11_touches_30 rfl ⟨Nat.zero_le _, Nat.zero_le _⟩ h
  · replace h := wI_neg h4 h
    refine g_iload_n (q0 := 8) (j := 2) rfl dX11_touches_7 rfl ?_
    refine g_iconst (q0 := 9) rfl dX11_touches_8 (k := ?_)
    refine g_icmp_lt (q0 := 12) (tgt := 29) rfl dX11_touches_9 (by decide) (fun h9 => ?_) (fun h9 => ?_)
    · replace h := wI_pos h9 h
      refine g_iconst (q0 := 30) rfl dX11_touches_29 (k := ?_)
      exact g_ireturn dX11_touches_30 rfl ⟨Nat.zero_le _, Nat.zero_le _⟩ h
    · replace h := wI_neg (Int.not_lt.mpr h9) h
      refine g_iload_n (q0 := 13) (j := 2) rfl dX11_touches_12 rfl ?_
      refine g_bipush (q0 := 15) rfl dX11_touches_13 (k := ?_)
      refine g_icmp_gt (q0 := 18) (tgt := 29) rfl dX11_touches_15 (by decide) (fun h15 => ?_) (fun h15 => ?_)
      · replace h := wI_pos h15 h
        refine g_iconst (q0 := 30) rfl dX11_touches_29 (k := ?_)
        exact g_ireturn dX11_touches_30 rfl ⟨Nat.zero_le _, Nat.zero_le _⟩ h
      · replace h := wI_neg (Int.not_lt.mpr h15) h
        refine g_iload_n (q0 := 19) (j := 2) rfl dX11_touches_18 rfl ?_
        refine g_aload_n (q0 := 20) (j := 0) rfl dX11_touches_19 rfl ?_
        refine g_getp (q0 := 23) (b := 1) rfl ff_X11_10 dX11_touches_20 rfl hOK (by decide) (sh_0 hOK) rfl (by decide) ?_
        refine g_getf (q0 := 26) (t := 0) (fi := 1) rfl rfl ff_X11_103 dX11_touches_23 rfl (sh_1 hOK) ?_
        refine g_icmp_le (q0 := 29) (tgt := 31) rfl dX11_touches_26 (by decide) (fun h26 => ?_) (fun h26 => ?_)
        · replace h := wI_neg (Int.not_lt.mpr h26) h
          refine g_aload_n (q0 := 32) (j := 0) rfl dX11_touches_31 rfl ?_
          refine g_iload_n (q0 := 33) (j := 2) rfl dX11_touches_32 rfl ?_
          obtain ⟨P33, e33, h⟩ := h
          refine g_callVm (as := [_]) (rest := []) mt_X11_readWholePath mi_X11_readWholePath se_X11_readWholePath ml_X11_341 dX11_touches_33 (q0 := 36) rfl rfl (sh_0 hOK) rfl rfl e33 rfl ⟨by decide, by decide⟩ (Nat.le_of_ble_eq_true rfl) ⟨Nat.zero_le _, Nat.zero_le _⟩ (fun r33 M33 hP33 hw33 hMw33 => ?_)
          obtain ⟨v33, hr33, hOK1, h⟩ := h r33 M33 hP33
          subst hr33
          refine g_istore_n (q0 := 37) (j := 3) (lv2 := [_, _, _, _, _, _]) rfl dX11_touches_36 (by decide) rfl rfl ?_
          refine g_aload_n (q0 := 38) (j := 0) rfl dX11_touches_37 rfl ?_
          refine g_getp (q0 := 41) (b := 1) rfl ff_X11_10 dX11_touches_38 rfl hOK1 (by decide) (sh_0 hOK1) rfl (by decide) ?_
          refine g_getf (q0 := 44) (t := 0) (fi := 4) rfl rfl ff_X11_344 dX11_touches_41 rfl (sh_1 hOK1) ?_
          refine g_if_eq (q0 := 47) (tgt := 55) rfl dX11_touches_44 (by decide) (fun h44 => ?_) (fun h44 => ?_)
          · replace h := wI_pos h44 h
            refine g_aload_n (q0 := 56) (j := 0) rfl dX11_touches_55 rfl ?_
            refine g_getp (q0 := 59) (b := 4) rfl ff_X11_27 dX11_touches_56 rfl hOK1 (by decide) (sh_0 hOK1) rfl (by decide) ?_
            refine g_aload_n (q0 := 60) (j := 0) rfl dX11_touches_59 rfl ?_
            refine g_getp (q0 := 63) (b := 408) rfl ff_X11_37 dX11_touches_60 rfl hOK1 (by decide) (sh_0 hOK1) rfl (by decide) ?_
            refine g_iload_n (q0 := 64) (j := 1) rfl dX11_touches_63 rfl ?_
            obtain ⟨g2, h⟩ := h
            refine g_aald (q0 := 65) (q := 1) rfl dX11_touches_64 (sh_408 hOK1) rfl g2.1 g2.2 ?_
            rw [(hOK1.2.2.2 _ g2.1 g2.2).1]
            refine g_aload_n (q0 := 66) (j := 0) rfl dX11_touches_65 rfl ?_
            refine g_getp (q0 := 69) (b := 470) rfl ff_X11_74 dX11_touches_66 rfl hOK1 (by decide) (sh_0 hOK1) rfl (by decide) ?_
            refine g_iconst (q0 := 70) rfl dX11_touches_69 (k := ?_)
            obtain ⟨P70, e70, h⟩ := h
            refine g_callVm (as := [_, _, _]) (rest := []) mt_X1_markHistory mi_X1_markHistory se_X1_markHistory ml_X11_361 dX11_touches_70 (q0 := 73) rfl rfl (sh_4 hOK1) rfl rfl e70 rfl ⟨by decide, by decide⟩ (Nat.le_of_ble_eq_true rfl) ⟨Nat.zero_le _, Nat.zero_le _⟩ (fun r70 M70 hP70 hw70 hMw70 => ?_)
            obtain ⟨hr70, hOK3, h⟩ := h r70 M70 hP70
            subst hr70
            refine g_iconst (q0 := 74) rfl dX11_touches_73 (k := ?_)
            refine g_istore (q0 := 76) (j := 4) (lv2 := [_, _, _, _, _, _]) rfl dX11_touches_74 (by decide) rfl rfl ?_
            refine g_iconst (q0 := 77) rfl dX11_touches_76 (k := ?_)
            refine g_istore (q0 := 79) (j := 5) (lv2 := [_, _, _, _, _, _]) rfl dX11_touches_77 (by decide) rfl rfl ?_
            exact h
          · replace h := wI_neg h44 h
            refine g_aload_n (q0 := 48) (j := 0) rfl dX11_touches_47 rfl ?_
            refine g_getp (q0 := 51) (b := 1) rfl ff_X11_10 dX11_touches_48 rfl hOK1 (by decide) (sh_0 hOK1) rfl (by decide) ?_
            refine g_getf (q0 := 54) (t := 0) (fi := 4) rfl rfl ff_X11_344 dX11_touches_51 rfl (sh_1 hOK1) ?_
            exact g_ireturn dX11_touches_54 rfl ⟨Nat.zero_le _, Nat.zero_le _⟩ h
        · replace h := wI_pos h26 h
          refine g_iconst (q0 := 30) rfl dX11_touches_29 (k := ?_)
          exact g_ireturn dX11_touches_30 rfl ⟨Nat.zero_le _, Nat.zero_le _⟩ h
-- ==== X11_readWholePath
theorem dX11_readWholePath_0 : decode cX11_readWholePath 0 = .ok (.aload_n 0, 1) := by decide +kernel
theorem dX11_readWholePath_1 : decode cX11_readWholePath 1 = .ok (.getfield 10, 3) := by decide +kernel
theorem dX11_readWholePath_4 : decode cX11_readWholePath 4 = .ok (.iload_n 1, 1) := by decide +kernel
theorem dX11_readWholePath_5 : decode cX11_readWholePath 5 = .ok (.invokevirtual 370, 3) := by decide +kernel
theorem dX11_readWholePath_8 : decode cX11_readWholePath 8 = .ok (.aload_n 0, 1) := by decide +kernel
theorem dX11_readWholePath_9 : decode cX11_readWholePath 9 = .ok (.getfield 10, 3) := by decide +kernel
theorem dX11_readWholePath_12 : decode cX11_readWholePath 12 = .ok (.bipush 6, 2) := by decide +kernel
theorem dX11_readWholePath_14 : decode cX11_readWholePath 14 = .ok (.invokevirtual 372, 3) := by decide +kernel
theorem dX11_readWholePath_17 : decode cX11_readWholePath 17 = .ok (.istore_n 2, 1) := by decide +kernel
theorem dX11_readWholePath_18 : decode cX11_readWholePath 18 = .ok (.aload_n 0, 1) := by decide +kernel
theorem dX11_readWholePath_19 : decode cX11_readWholePath 19 = .ok (.getfield 10, 3) := by decide +kernel
theorem dX11_readWholePath_22 : decode cX11_readWholePath 22 = .ok (.getfield 344, 3) := by decide +kernel
theorem dX11_readWholePath_25 : decode cX11_readWholePath 25 = .ok (.ifCond .ne 28, 3) := by decide +kernel
theorem dX11_readWholePath_28 : decode cX11_readWholePath 28 = .ok (.aload_n 0, 1) := by decide +kernel
theorem dX11_readWholePath_29 : decode cX11_readWholePath 29 = .ok (.getfield 10, 3) := by decide +kernel
theorem dX11_readWholePath_32 : decode cX11_readWholePath 32 = .ok (.invokevirtual 375, 3) := by decide +kernel
theorem dX11_readWholePath_35 : decode cX11_readWholePath 35 = .ok (.ifCond .ne 18, 3) := by decide +kernel
theorem dX11_readWholePath_38 : decode cX11_readWholePath 38 = .ok (.aload_n 0, 1) := by decide +kernel
theorem dX11_readWholePath_39 : decode cX11_readWholePath 39 = .ok (.getfield 10, 3) := by decide +kernel
theorem dX11_readWholePath_42 : decode cX11_readWholePath 42 = .ok (.iconst 1, 1) := by decide +kernel
theorem dX11_readWholePath_43 : decode cX11_readWholePath 43 = .ok (.aload_n 0, 1) := by decide +kernel
theorem dX11_readWholePath_44 : decode cX11_readWholePath 44 = .ok (.getfield 10, 3) := by decide +kernel
theorem dX11_readWholePath_47 : decode cX11_readWholePath 47 = .ok (.getfield 378, 3) := by decide +kernel
theorem dX11_readWholePath_50 : decode cX11_readWholePath 50 = .ok (.invokevirtual 381, 3) := by decide +kernel
theorem dX11_readWholePath_53 : decode cX11_readWholePath 53 = .ok (.aload_n 0, 1) := by decide +kernel
theorem dX11_readWholePath_54 : decode cX11_readWholePath 54 = .ok (.getfield 10, 3) := by decide +kernel
theorem dX11_readWholePath_57 : decode cX11_readWholePath 57 = .ok (.iconst 0, 1) := by decide +kernel
theorem dX11_readWholePath_58 : decode cX11_readWholePath 58 = .ok (.putfield 103, 3) := by decide +kernel
theorem dX11_readWholePath_61 : decode cX11_readWholePath 61 = .ok (.iload_n 2, 1) := by decide +kernel
theorem dX11_readWholePath_62 : decode cX11_readWholePath 62 = .ok (.ireturn, 1) := by decide +kernel
theorem w_X11_readWholePath {sh : gS} {Q : Option gV → gS → gM → Prop} {a1 : Int} {M : gM} (hOK : gOK sh M) (h : (∃ P5 : Option gV → gM → Prop, gC (gr 1 21) yX9_begin cX9_begin 2 none [(4, 1), (0, a1)] sh M (gPm sh P5) ∧ ∀ (r5 : Option gV) (M5 : gM), P5 r5 M5 → r5 = none ∧ gOK sh M5 ∧
    (∃ P14 : Option gV → gM → Prop, gC (gr 1 22) yX9_path cX9_path 4 (some (.int)) [(4, 1), (0, 6)] sh M5 (gPm sh P14) ∧ ∀ (r14 : Option gV) (M14 : gM), P14 r14 M14 → ∃ v14 : Int, r14 = some (0, v14) ∧ gOK sh M14 ∧
      (if (M14 1 4) = 0 then
        (∃ v32 : Int, gC (gr 0 0) yX9_isAtEnd cX9_isAtEnd 1 (some (.boolean)) [(4, 1)] sh M14 (gPp sh M14 (0, v32)) ∧
          (if v32 = 0 then
            (∃ P50 : Option gV → gM → Prop, gC (gr 0 0) yX9_fail cX9_fail 3 none [(4, 1), (0, 1), (0, (M14 1 2))] sh M14 (gPm sh P50) ∧ ∀ (r50 : Option gV) (M50 : gM), P50 r50 M50 → r50 = none ∧ gOK sh M50 ∧
              (Q (some (0, v14)) sh (gU M50 1 1 0)))
          else
            (Q (some (0, v14)) sh (gU M14 1 1 0))))
      else
        (Q (some (0, v14)) sh (gU M14 1 1 0)))))) : gC (gr 2 45) yX11_readWholePath cX11_readWholePath 3 (some (.int)) [(4, 0), (0, a1)] sh M Q := by
  refine gC_ofA (lv := [_, _, _]) (by decide +kernel) (Nat.le_of_ble_eq_true rfl) rfl (fun hMw hav => ?_)
  refine g_aload_n (q0 := 1) (j := 0) rfl dX11_readWholePath_0 rfl ?_
  refine g_getp (q0 := 4) (b := 1) rfl ff_X11_10 dX11_readWholePath_1 rfl hOK (by decide) (sh_0 hOK) rfl (by decide) ?_
  refine g_iload_n (q0 := 5) (j := 1) rfl dX11_readWholePath_4 rfl ?_
  obtain ⟨P5, e5, h⟩ := h
  refine g_callVm (as := [_]) (rest := []) mt_X9_begin mi_X9_begin se_X9_begin ml_X11_370 dX11_readWholePath_5 (q0 := 8) rfl rfl (sh_1 hOK) rfl rfl e5 rfl ⟨by decide, by decide⟩ (Nat.le_of_ble_eq_true rfl) ⟨Nat.zero_le _, Nat.zero_le _⟩ (fun r5 M5 hP5 hw5 hMw5 => ?_)
  obtain ⟨hr5, hOK1, h⟩ := h r5 M5 hP5
  subst hr5
  refine g_aload_n (q0 := 9) (j := 0) rfl dX11_readWholePath_8 rfl ?_
  refine g_getp (q0 := 12) (b := 1) rfl ff_X11_10 dX11_readWholePath_9 rfl hOK1 (by decide) (sh_0 hOK1) rfl (by decide) ?_
  refine g_bipush (q0 := 14) rfl dX11_readWholePath_12 (k := ?_)
  obtain ⟨P14, e14, h⟩ := h
  refine g_callVm (as := [_]) (rest := []) mt_X9_path mi_X9_path se_X9_path ml_X11_372 dX11_readWholePath_14 (q0 := 17) rfl rfl (sh_1 hOK1) rfl rfl e14 rfl ⟨by decide, by decide⟩ (Nat.le_of_ble_eq_true rfl) ⟨Nat.zero_le _, Nat.zero_le _⟩ (fun r14 M14 hP14 hw14 hMw14 => ?_)
  obtain ⟨v14, hr14, hOK2, h⟩ := h r14 M14 hP14
  subst hr14
  refine g_istore_n (q0 := 18) (j := 2) (lv2 := [_, _, _]) rfl dX11_readWholePath_17 (by decide) rfl rfl ?_
  refine g_aload_n (q0 := 19) (j := 0) rfl dX11_readWholePath_18 rfl ?_
  refine g_getp (q0 := 22) (b := 1) rfl ff_X11_10 dX11_readWholePath_19 rfl hOK2 (by decide) (sh_0 hOK2) rfl (by decide) ?_
  refine g_getf (q0 := 25) (t := 0) (fi := 4) rfl rfl ff_X11_344 dX11_readWholePath_22 rfl (sh_1 hOK2) ?_
  refine g_if_ne (q0 := 28) (tgt := 53) rfl dX11_readWholePath_25 (by decide) (fun h25 => ?_) (fun h25 => ?_)
  · replace h := wI_neg h25 h
    refine g_aload_n (q0 := 54) (j := 0) rfl dX11_readWholePath_53 rfl ?_
    refine g_getp (q0 := 57) (b := 1) rfl ff_X11_10 dX11_readWholePath_54 rfl hOK2 (by decide) (sh_0 hOK2) rfl (by decide) ?_
    refine g_iconst (q0 := 58) rfl dX11_readWholePath_57 (k := ?_)
    refine g_put (q0 := 61) (t := 0) (fi := 1) rfl rfl ff_X11_103 dX11_readWholePath_58 rfl (sh_1 hOK2) rfl (fun _ => ⟨rfl, rfl⟩) ?_
    have hOK3 : gOK sh (gU M14 1 1 0) := gOK_o hOK2 (sh_1 hOK2) (f := 1) rfl rfl
    refine g_iload_n (q0 := 62) (j := 2) rfl dX11_readWholePath_61 rfl ?_
    exact g_ireturn dX11_readWholePath_62 rfl ⟨Nat.zero_le _, Nat.zero_le _⟩ h
  · replace h := wI_pos h25 h
    refine g_aload_n (q0 := 29) (j := 0) rfl dX11_readWholePath_28 rfl ?_
    refine g_getp (q0 := 32) (b := 1) rfl ff_X11_10 dX11_readWholePath_29 rfl hOK2 (by decide) (sh_0 hOK2) rfl (by decide) ?_
    obtain ⟨v32, e32, h⟩ := h
    refine g_callVp (as := []) (rest := []) mt_X9_isAtEnd mi_X9_isAtEnd se_X9_isAtEnd ml_X11_375 dX11_readWholePath_32 (q0 := 35) rfl rfl (sh_1 hOK2) rfl rfl e32 rfl ⟨by decide, by decide⟩ (Nat.le_of_ble_eq_true rfl) ⟨Nat.zero_le _, Nat.zero_le _⟩ (fun _ => ?_)
    refine g_if_ne (q0 := 38) (tgt := 53) rfl dX11_readWholePath_35 (by decide) (fun h35 => ?_) (fun h35 => ?_)
    · replace h := wI_neg h35 h
      refine g_aload_n (q0 := 54) (j := 0) rfl dX11_readWholePath_53 rfl ?_
      refine g_getp (q0 := 57) (b := 1) rfl ff_X11_10 dX11_readWholePath_54 rfl hOK2 (by decide) (sh_0 hOK2) rfl (by decide) ?_
      refine g_iconst (q0 := 58) rfl dX11_readWholePath_57 (k := ?_)
      refine g_put (q0 := 61) (t := 0) (fi := 1) rfl rfl ff_X11_103 dX11_readWholePath_58 rfl (sh_1 hOK2) rfl (fun _ => ⟨rfl, rfl⟩) ?_
      have hOK4 : gOK sh (gU M14 1 1 0) := gOK_o hOK2 (sh_1 hOK2) (f := 1) rfl rfl
      refine g_iload_n (q0 := 62) (j := 2) rfl dX11_readWholePath_61 rfl ?_
      exact g_ireturn dX11_readWholePath_62 rfl ⟨Nat.zero_le _, Nat.zero_le _⟩ h
    · replace h := wI_pos h35 h
      refine g_aload_n (q0 := 39) (j := 0) rfl dX11_readWholePath_38 rfl ?_
      refine g_getp (q0 := 42) (b := 1) rfl ff_X11_10 dX11_readWholePath_39 rfl hOK2 (by decide) (sh_0 hOK2) rfl (by decide) ?_
      refine g_iconst (q0 := 43) rfl dX11_readWholePath_42 (k := ?_)
      refine g_aload_n (q0 := 44) (j := 0) rfl dX11_readWholePath_43 rfl ?_
      refine g_getp (q0 := 47) (b := 1) rfl ff_X11_10 dX11_readWholePath_44 rfl hOK2 (by decide) (sh_0 hOK2) rfl (by decide) ?_
      refine g_getf (q0 := 50) (t := 0) (fi := 2) rfl rfl ff_X11_378 dX11_readWholePath_47 rfl (sh_1 hOK2) ?_
      obtain ⟨P50, e50, h⟩ := h
      refine g_callVm (as := [_, _]) (rest := []) mt_X9_fail mi_X9_fail se_X9_fail ml_X11_381 dX11_readWholePath_50 (q0 := 53) rfl rfl (sh_1 hOK2) rfl rfl e50 rfl ⟨by decide, by decide⟩ (Nat.le_of_ble_eq_true rfl) ⟨Nat.zero_le _, Nat.zero_le _⟩ (fun r50 M50 hP50 hw50 hMw50 => ?_)
      obtain ⟨hr50, hOK5, h⟩ := h r50 M50 hP50
      subst hr50
      refine g_aload_n (q0 := 54) (j := 0) rfl dX11_readWholePath_53 rfl ?_
      refine g_getp (q0 := 57) (b := 1) rfl ff_X11_10 dX11_readWholePath_54 rfl hOK5 (by decide) (sh_0 hOK5) rfl (by decide) ?_
      refine g_iconst (q0 := 58) rfl dX11_readWholePath_57 (k := ?_)
      refine g_put (q0 := 61) (t := 0) (fi := 1) rfl rfl ff_X11_103 dX11_readWholePath_58 rfl (sh_1 hOK5) rfl (fun _ => ⟨rfl, rfl⟩) ?_
      have hOK6 : gOK sh (gU M50 1 1 0) := gOK_o hOK5 (sh_1 hOK5) (f := 1) rfl rfl
      refine g_iload_n (q0 := 62) (j := 2) rfl dX11_readWholePath_61 rfl ?_
      exact g_ireturn dX11_readWholePath_62 rfl ⟨Nat.zero_le _, Nat.zero_le _⟩ h
-- ==== X11_isTouched
theorem dX11_isTouched_0 : decode cX11_isTouched 0 = .ok (.aload_n 0, 1) := by decide +kernel
theorem dX11_isTouched_1 : decode cX11_isTouched 1 = .ok (.getfield 27, 3) := by decide +kernel
theorem dX11_isTouched_4 : decode cX11_isTouched 4 = .ok (.getfield 295, 3) := by decide +kernel
theorem dX11_isTouched_7 : decode cX11_isTouched 7 = .ok (.iload_n 1, 1) := by decide +kernel
theorem dX11_isTouched_8 : decode cX11_isTouched 8 = .ok (.iaload, 1) := by decide +kernel
theorem dX11_isTouched_9 : decode cX11_isTouched 9 = .ok (.ifCond .ne 24, 3) := by decide +kernel
theorem dX11_isTouched_12 : decode cX11_isTouched 12 = .ok (.aload_n 0, 1) := by decide +kernel
theorem dX11_isTouched_13 : decode cX11_isTouched 13 = .ok (.getfield 27, 3) := by decide +kernel
theorem dX11_isTouched_16 : decode cX11_isTouched 16 = .ok (.iload_n 1, 1) := by decide +kernel
theorem dX11_isTouched_17 : decode cX11_isTouched 17 = .ok (.invokevirtual 155, 3) := by decide +kernel
theorem dX11_isTouched_20 : decode cX11_isTouched 20 = .ok (.iload_n 2, 1) := by decide +kernel
theorem dX11_isTouched_21 : decode cX11_isTouched 21 = .ok (.invokevirtual 352, 3) := by decide +kernel
theorem dX11_isTouched_24 : decode cX11_isTouched 24 = .ok (.ifCond .le 7, 3) := by decide +kernel
theorem dX11_isTouched_27 : decode cX11_isTouched 27 = .ok (.iconst 1, 1) := by decide +kernel
theorem dX11_isTouched_28 : decode cX11_isTouched 28 = .ok (.goto 4, 3) := by decide +kernel
theorem dX11_isTouched_31 : decode cX11_isTouched 31 = .ok (.iconst 0, 1) := by decide +kernel
theorem dX11_isTouched_32 : decode cX11_isTouched 32 = .ok (.ireturn, 1) := by decide +kernel
theorem dX11_isTouched_33 : decode cX11_isTouched 33 = .ok (.iconst 0, 1) := by decide +kernel
theorem dX11_isTouched_34 : decode cX11_isTouched 34 = .ok (.istore_n 3, 1) := by decide +kernel
theorem dX11_isTouched_35 : decode cX11_isTouched 35 = .ok (.iload_n 3, 1) := by decide +kernel
theorem dX11_isTouched_36 : decode cX11_isTouched 36 = .ok (.aload_n 0, 1) := by decide +kernel
theorem dX11_isTouched_37 : decode cX11_isTouched 37 = .ok (.getfield 27, 3) := by decide +kernel
theorem dX11_isTouched_40 : decode cX11_isTouched 40 = .ok (.getfield 295, 3) := by decide +kernel
theorem dX11_isTouched_43 : decode cX11_isTouched 43 = .ok (.iload_n 1, 1) := by decide +kernel
theorem dX11_isTouched_44 : decode cX11_isTouched 44 = .ok (.iaload, 1) := by decide +kernel
theorem dX11_isTouched_45 : decode cX11_isTouched 45 = .ok (.if_icmp .ge 42, 3) := by decide +kernel
theorem dX11_isTouched_48 : decode cX11_isTouched 48 = .ok (.aload_n 0, 1) := by decide +kernel
theorem dX11_isTouched_49 : decode cX11_isTouched 49 = .ok (.getfield 27, 3) := by decide +kernel
theorem dX11_isTouched_52 : decode cX11_isTouched 52 = .ok (.iload_n 1, 1) := by decide +kernel
theorem dX11_isTouched_53 : decode cX11_isTouched 53 = .ok (.invokevirtual 155, 3) := by decide +kernel
theorem dX11_isTouched_56 : decode cX11_isTouched 56 = .ok (.aload_n 0, 1) := by decide +kernel
theorem dX11_isTouched_57 : decode cX11_isTouched 57 = .ok (.getfield 27, 3) := by decide +kernel
theorem dX11_isTouched_60 : decode cX11_isTouched 60 = .ok (.aload_n 0, 1) := by decide +kernel
theorem dX11_isTouched_61 : decode cX11_isTouched 61 = .ok (.getfield 27, 3) := by decide +kernel
theorem dX11_isTouched_64 : decode cX11_isTouched 64 = .ok (.iload_n 1, 1) := by decide +kernel
theorem dX11_isTouched_65 : decode cX11_isTouched 65 = .ok (.iload_n 3, 1) := by decide +kernel
theorem dX11_isTouched_66 : decode cX11_isTouched 66 = .ok (.invokevirtual 314, 3) := by decide +kernel
theorem dX11_isTouched_69 : decode cX11_isTouched 69 = .ok (.invokevirtual 155, 3) := by decide +kernel
theorem dX11_isTouched_72 : decode cX11_isTouched 72 = .ok (.iload_n 2, 1) := by decide +kernel
theorem dX11_isTouched_73 : decode cX11_isTouched 73 = .ok (.invokevirtual 384, 3) := by decide +kernel
theorem dX11_isTouched_76 : decode cX11_isTouched 76 = .ok (.ifCond .eq 5, 3) := by decide +kernel
theorem dX11_isTouched_79 : decode cX11_isTouched 79 = .ok (.iconst 0, 1) := by decide +kernel
theorem dX11_isTouched_80 : decode cX11_isTouched 80 = .ok (.ireturn, 1) := by decide +kernel
theorem dX11_isTouched_81 : decode cX11_isTouched 81 = .ok (.iinc 3 1, 3) := by decide +kernel
theorem dX11_isTouched_84 : decode cX11_isTouched 84 = .ok (.goto (-49), 3) := by decide +kernel
theorem dX11_isTouched_87 : decode cX11_isTouched 87 = .ok (.iconst 1, 1) := by decide +kernel
theorem dX11_isTouched_88 : decode cX11_isTouched 88 = .ok (.ireturn, 1) := by decide +kernel
def P_X11_isTouched_35 (sh : gS) (Q : Option gV → gS → gM → Prop) (x1 x2 x3 : Int) (M : gM) : Prop := gA (gr 3 69) yX11_isTouched cX11_isTouched 4 (some (.boolean)) Q (0, 0) 35 [(4, 0), (0, x1), (0, x2), (0, x3)] [] sh M
theorem w_X11_isTouched_35 {sh : gS} {Q : Option gV → gS → gM → Prop} {x1 x2 x3 : Int} {M : gM} (hOK : gOK sh M) (h : ((0 ≤ x1 ∧ x1 < 120) ∧
    (if x3 < (M 5 x1) then
      (∃ v53 : Int, gC (gr 0 0) yX1_tree cX1_tree 2 (some (.object "CarriedHistory$Tree")) [(4, 4), (0, x1)] sh M (gPp sh M (4, v53)) ∧
        (∃ v66 : Int, gC (gr 0 0) yX1_parent cX1_parent 3 (some (.int)) [(4, 4), (0, x1), (0, x3)] sh M (gPp sh M (0, v66)) ∧
          (∃ v69 : Int, gC (gr 0 0) yX1_tree cX1_tree 2 (some (.object "CarriedHistory$Tree")) [(4, 4), (0, v66)] sh M (gPp sh M (4, v69)) ∧
            ((gsh sh v53 = some (0, 11) ∧ v53 < 758) ∧
              (∃ v73 : Int, gC (gr 2 46) yX10_isLikeAt cX10_isLikeAt 4 (some (.boolean)) [(4, v53), (4, v69), (0, x2)] sh M (gPp sh M (0, v73)) ∧
                (if v73 = 0 then
                  (P_X11_isTouched_35 sh Q x1 x2 (gw32 (x3 + 1)) M)
                else
                  (Q (some (0, 0)) sh M)))))))
    else
      (Q (some (0, 1)) sh M)))) : P_X11_isTouched_35 sh Q x1 x2 x3 M := by
  unfold P_X11_isTouched_35
  refine g_iload_n (q0 := 36) (j := 3) rfl dX11_isTouched_35 rfl ?_
  refine g_aload_n (q0 := 37) (j := 0) rfl dX11_isTouched_36 rfl ?_
  refine g_getp (q0 := 40) (b := 4) rfl ff_X11_27 dX11_isTouched_37 rfl hOK (by decide) (sh_0 hOK) rfl (by decide) ?_
  refine g_getp (q0 := 43) (b := 5) rfl ff_X11_295 dX11_isTouched_40 rfl hOK (by decide) (sh_4 hOK) rfl (by decide) ?_
  refine g_iload_n (q0 := 44) (j := 1) rfl dX11_isTouched_43 rfl ?_
  obtain ⟨g1, h⟩ := h
  refine g_iald (q0 := 45) rfl dX11_isTouched_44 (sh_5 hOK) g1.1 g1.2 ?_
  refine g_icmp_ge (q0 := 48) (tgt := 87) rfl dX11_isTouched_45 (by decide) (fun h45 => ?_) (fun h45 => ?_)
  · replace h := wI_neg (Int.not_lt.mpr h45) h
    refine g_iconst (q0 := 88) rfl dX11_isTouched_87 (k := ?_)
    exact g_zreturn dX11_isTouched_88 rfl (gnz (Or.inr rfl)) ⟨Nat.zero_le _, Nat.zero_le _⟩ h
  · replace h := wI_pos h45 h
    refine g_aload_n (q0 := 49) (j := 0) rfl dX11_isTouched_48 rfl ?_
    refine g_getp (q0 := 52) (b := 4) rfl ff_X11_27 dX11_isTouched_49 rfl hOK (by decide) (sh_0 hOK) rfl (by decide) ?_
    refine g_iload_n (q0 := 53) (j := 1) rfl dX11_isTouched_52 rfl ?_
    obtain ⟨v53, e53, h⟩ := h
    refine g_callVp (as := [_]) (rest := []) mt_X1_tree mi_X1_tree se_X1_tree ml_X11_155 dX11_isTouched_53 (q0 := 56) rfl rfl (sh_4 hOK) rfl rfl e53 rfl ⟨by decide, by decide⟩ (Nat.le_of_ble_eq_true rfl) ⟨Nat.zero_le _, Nat.zero_le _⟩ (fun _ => ?_)
    refine g_aload_n (q0 := 57) (j := 0) rfl dX11_isTouched_56 rfl ?_
    refine g_getp (q0 := 60) (b := 4) rfl ff_X11_27 dX11_isTouched_57 rfl hOK (by decide) (sh_0 hOK) rfl (by decide) ?_
    refine g_aload_n (q0 := 61) (j := 0) rfl dX11_isTouched_60 rfl ?_
    refine g_getp (q0 := 64) (b := 4) rfl ff_X11_27 dX11_isTouched_61 rfl hOK (by decide) (sh_0 hOK) rfl (by decide) ?_
    refine g_iload_n (q0 := 65) (j := 1) rfl dX11_isTouched_64 rfl ?_
    refine g_iload_n (q0 := 66) (j := 3) rfl dX11_isTouched_65 rfl ?_
    obtain ⟨v66, e66, h⟩ := h
    refine g_callVp (as := [_, _]) (rest := [_, _]) mt_X1_parent mi_X1_parent se_X1_parent ml_X11_314 dX11_isTouched_66 (q0 := 69) rfl rfl (sh_4 hOK) rfl rfl e66 rfl ⟨by decide, by decide⟩ (Nat.le_of_ble_eq_true rfl) ⟨Nat.zero_le _, Nat.zero_le _⟩ (fun _ => ?_)
    obtain ⟨v69, e69, h⟩ := h
    refine g_callVp (as := [_]) (rest := [_]) mt_X1_tree mi_X1_tree se_X1_tree ml_X11_155 dX11_isTouched_69 (q0 := 72) rfl rfl (sh_4 hOK) rfl rfl e69 rfl ⟨by decide, by decide⟩ (Nat.le_of_ble_eq_true rfl) ⟨Nat.zero_le _, Nat.zero_le _⟩ (fun _ => ?_)
    refine g_iload_n (q0 := 73) (j := 2) rfl dX11_isTouched_72 rfl ?_
    obtain ⟨g2, h⟩ := h
    obtain ⟨v73, e73, h⟩ := h
    refine g_callVp (as := [_, _]) (rest := []) mt_X10_isLikeAt mi_X10_isLikeAt se_X10_isLikeAt ml_X11_384 dX11_isTouched_73 (q0 := 76) rfl rfl g2.1 rfl rfl e73 rfl ⟨by decide, by decide⟩ (Nat.le_of_ble_eq_true rfl) ⟨Nat.zero_le _, Nat.zero_le _⟩ (fun _ => ?_)
    refine g_if_eq (q0 := 79) (tgt := 81) rfl dX11_isTouched_76 (by decide) (fun h76 => ?_) (fun h76 => ?_)
    · replace h := wI_pos h76 h
      refine g_iincw (q0 := 84) (lv2 := [_, _, _, _]) rfl dX11_isTouched_81 rfl (by decide) rfl rfl ?_
      refine g_goto (tgt := 35) dX11_isTouched_84 (by decide) ?_
      exact h
    · replace h := wI_neg h76 h
      refine g_iconst (q0 := 80) rfl dX11_isTouched_79 (k := ?_)
      exact g_zreturn dX11_isTouched_80 rfl (gnz (Or.inl rfl)) ⟨Nat.zero_le _, Nat.zero_le _⟩ h
theorem w_X11_isTouched {sh : gS} {Q : Option gV → gS → gM → Prop} {a1 a2 : Int} {M : gM} (hOK : gOK sh M) (h : ((0 ≤ a1 ∧ a1 < 120) ∧
    (if (M 5 a1) = 0 then
      (∃ v17 : Int, gC (gr 0 0) yX1_tree cX1_tree 2 (some (.object "CarriedHistory$Tree")) [(4, 4), (0, a1)] sh M (gPp sh M (4, v17)) ∧
        ((gsh sh v17 = some (0, 11) ∧ v17 < 758) ∧
          (∃ v21 : Int, gC (gr 1 23) yX10_filesAt cX10_filesAt 4 (some (.int)) [(4, v17), (0, a2)] sh M (gPp sh M (0, v21)) ∧
            (if (0 : Int) < v21 then
              (Q (some (0, 1)) sh M)
            else
              (Q (some (0, 0)) sh M)))))
    else
      (P_X11_isTouched_35 sh Q a1 a2 0 M)))) : gC (gr 3 69) yX11_isTouched cX11_isTouched 4 (some (.boolean)) [(4, 0), (0, a1), (0, a2)] sh M Q := by
  refine gC_ofA (lv := [_, _, _, _]) (by decide +kernel) (Nat.le_of_ble_eq_true rfl) rfl (fun hMw hav => ?_)
  refine g_aload_n (q0 := 1) (j := 0) rfl dX11_isTouched_0 rfl ?_
  refine g_getp (q0 := 4) (b := 4) rfl ff_X11_27 dX11_isTouched_1 rfl hOK (by decide) (sh_0 hOK) rfl (by decide) ?_
  refine g_getp (q0 := 7) (b := 5) rfl ff_X11_295 dX11_isTouched_4 rfl hOK (by decide) (sh_4 hOK) rfl (by decide) ?_
  refine g_iload_n (q0 := 8) (j := 1) rfl dX11_isTouched_7 rfl ?_
  obtain ⟨g3, h⟩ := h
  refine g_iald (q0 := 9) rfl dX11_isTouched_8 (sh_5 hOK) g3.1 g3.2 ?_
  refine g_if_ne (q0 := 12) (tgt := 33) rfl dX11_isTouched_9 (by decide) (fun h9 => ?_) (fun h9 => ?_)
  · replace h := wI_neg h9 h
    refine g_iconst (q0 := 34) rfl dX11_isTouched_33 (k := ?_)
    refine g_istore_n (q0 := 35) (j := 3) (lv2 := [_, _, _, _]) rfl dX11_isTouched_34 (by decide) rfl rfl ?_
    exact h
  · replace h := wI_pos h9 h
    refine g_aload_n (q0 := 13) (j := 0) rfl dX11_isTouched_12 rfl ?_
    refine g_getp (q0 := 16) (b := 4) rfl ff_X11_27 dX11_isTouched_13 rfl hOK (by decide) (sh_0 hOK) rfl (by decide) ?_
    refine g_iload_n (q0 := 17) (j := 1) rfl dX11_isTouched_16 rfl ?_
    obtain ⟨v17, e17, h⟩ := h
    refine g_callVp (as := [_]) (rest := []) mt_X1_tree mi_X1_tree se_X1_tree ml_X11_155 dX11_isTouched_17 (q0 := 20) rfl rfl (sh_4 hOK) rfl rfl e17 rfl ⟨by decide, by decide⟩ (Nat.le_of_ble_eq_true rfl) ⟨Nat.zero_le _, Nat.zero_le _⟩ (fun _ => ?_)
    refine g_iload_n (q0 := 21) (j := 2) rfl dX11_isTouched_20 rfl ?_
    obtain ⟨g4, h⟩ := h
    obtain ⟨v21, e21, h⟩ := h
    refine g_callVp (as := [_]) (rest := []) mt_X10_filesAt mi_X10_filesAt se_X10_filesAt ml_X11_352 dX11_isTouched_21 (q0 := 24) rfl rfl g4.1 rfl rfl e21 rfl ⟨by decide, by decide⟩ (Nat.le_of_ble_eq_true rfl) ⟨Nat.zero_le _, Nat.zero_le _⟩ (fun _ => ?_)
    refine g_if_le (q0 := 27) (tgt := 31) rfl dX11_isTouched_24 (by decide) (fun h24 => ?_) (fun h24 => ?_)
    · replace h := wI_neg (Int.not_lt.mpr h24) h
      refine g_iconst (q0 := 32) rfl dX11_isTouched_31 (k := ?_)
      exact g_zreturn dX11_isTouched_32 rfl (gnz (Or.inl rfl)) ⟨Nat.zero_le _, Nat.zero_le _⟩ h
    · replace h := wI_pos h24 h
      refine g_iconst (q0 := 28) rfl dX11_isTouched_27 (k := ?_)
      refine g_goto (tgt := 32) dX11_isTouched_28 (by decide) ?_
      exact g_zreturn dX11_isTouched_32 rfl (gnz (Or.inr rfl)) ⟨Nat.zero_le _, Nat.zero_le _⟩ h
-- ==== X11_planIs
theorem dX11_planIs_0 : decode cX11_planIs 0 = .ok (.iload_n 1, 1) := by decide +kernel
theorem dX11_planIs_1 : decode cX11_planIs 1 = .ok (.invokestatic 132, 3) := by decide +kernel
theorem dX11_planIs_4 : decode cX11_planIs 4 = .ok (.ifCond .eq 13, 3) := by decide +kernel
theorem dX11_planIs_7 : decode cX11_planIs 7 = .ok (.iload_n 2, 1) := by decide +kernel
theorem dX11_planIs_8 : decode cX11_planIs 8 = .ok (.ifCond .lt 9, 3) := by decide +kernel
theorem dX11_planIs_11 : decode cX11_planIs 11 = .ok (.iload_n 2, 1) := by decide +kernel
theorem dX11_planIs_12 : decode cX11_planIs 12 = .ok (.bipush 20, 2) := by decide +kernel
theorem dX11_planIs_14 : decode cX11_planIs 14 = .ok (.if_icmp .le 5, 3) := by decide +kernel
theorem dX11_planIs_17 : decode cX11_planIs 17 = .ok (.iconst (-1), 1) := by decide +kernel
theorem dX11_planIs_18 : decode cX11_planIs 18 = .ok (.ireturn, 1) := by decide +kernel
theorem dX11_planIs_19 : decode cX11_planIs 19 = .ok (.aload_n 0, 1) := by decide +kernel
theorem dX11_planIs_20 : decode cX11_planIs 20 = .ok (.getfield 43, 3) := by decide +kernel
theorem dX11_planIs_23 : decode cX11_planIs 23 = .ok (.iload_n 1, 1) := by decide +kernel
theorem dX11_planIs_24 : decode cX11_planIs 24 = .ok (.aaload, 1) := by decide +kernel
theorem dX11_planIs_25 : decode cX11_planIs 25 = .ok (.astore_n 3, 1) := by decide +kernel
theorem dX11_planIs_26 : decode cX11_planIs 26 = .ok (.aload_n 3, 1) := by decide +kernel
theorem dX11_planIs_27 : decode cX11_planIs 27 = .ok (.getfield 189, 3) := by decide +kernel
theorem dX11_planIs_30 : decode cX11_planIs 30 = .ok (.ifCond .ne 6, 3) := by decide +kernel
theorem dX11_planIs_33 : decode cX11_planIs 33 = .ok (.bipush (-2), 2) := by decide +kernel
theorem dX11_planIs_35 : decode cX11_planIs 35 = .ok (.ireturn, 1) := by decide +kernel
theorem dX11_planIs_36 : decode cX11_planIs 36 = .ok (.iload_n 2, 1) := by decide +kernel
theorem dX11_planIs_37 : decode cX11_planIs 37 = .ok (.tableswitch 200 0 20 #[99, 104, 109, 117, 125, 133, 138, 143, 200, 200, 200, 200, 200, 148, 153, 158, 163, 168, 176, 184, 192], 99) := by decide +kernel
theorem dX11_planIs_136 : decode cX11_planIs 136 = .ok (.aload_n 3, 1) := by decide +kernel
theorem dX11_planIs_137 : decode cX11_planIs 137 = .ok (.getfield 193, 3) := by decide +kernel
theorem dX11_planIs_140 : decode cX11_planIs 140 = .ok (.ireturn, 1) := by decide +kernel
theorem dX11_planIs_141 : decode cX11_planIs 141 = .ok (.aload_n 3, 1) := by decide +kernel
theorem dX11_planIs_142 : decode cX11_planIs 142 = .ok (.getfield 221, 3) := by decide +kernel
theorem dX11_planIs_145 : decode cX11_planIs 145 = .ok (.ireturn, 1) := by decide +kernel
theorem dX11_planIs_146 : decode cX11_planIs 146 = .ok (.aload_n 3, 1) := by decide +kernel
theorem dX11_planIs_147 : decode cX11_planIs 147 = .ok (.getfield 388, 3) := by decide +kernel
theorem dX11_planIs_150 : decode cX11_planIs 150 = .ok (.getfield 392, 3) := by decide +kernel
theorem dX11_planIs_153 : decode cX11_planIs 153 = .ok (.ireturn, 1) := by decide +kernel
theorem dX11_planIs_154 : decode cX11_planIs 154 = .ok (.aload_n 3, 1) := by decide +kernel
theorem dX11_planIs_155 : decode cX11_planIs 155 = .ok (.getfield 395, 3) := by decide +kernel
theorem dX11_planIs_158 : decode cX11_planIs 158 = .ok (.getfield 392, 3) := by decide +kernel
theorem dX11_planIs_161 : decode cX11_planIs 161 = .ok (.ireturn, 1) := by decide +kernel
theorem dX11_planIs_162 : decode cX11_planIs 162 = .ok (.aload_n 3, 1) := by decide +kernel
theorem dX11_planIs_163 : decode cX11_planIs 163 = .ok (.getfield 398, 3) := by decide +kernel
theorem dX11_planIs_166 : decode cX11_planIs 166 = .ok (.getfield 392, 3) := by decide +kernel
theorem dX11_planIs_169 : decode cX11_planIs 169 = .ok (.ireturn, 1) := by decide +kernel
theorem dX11_planIs_170 : decode cX11_planIs 170 = .ok (.aload_n 3, 1) := by decide +kernel
theorem dX11_planIs_171 : decode cX11_planIs 171 = .ok (.getfield 401, 3) := by decide +kernel
theorem dX11_planIs_174 : decode cX11_planIs 174 = .ok (.ireturn, 1) := by decide +kernel
theorem dX11_planIs_175 : decode cX11_planIs 175 = .ok (.aload_n 3, 1) := by decide +kernel
theorem dX11_planIs_176 : decode cX11_planIs 176 = .ok (.getfield 404, 3) := by decide +kernel
theorem dX11_planIs_179 : decode cX11_planIs 179 = .ok (.ireturn, 1) := by decide +kernel
theorem dX11_planIs_180 : decode cX11_planIs 180 = .ok (.aload_n 3, 1) := by decide +kernel
theorem dX11_planIs_181 : decode cX11_planIs 181 = .ok (.getfield 235, 3) := by decide +kernel
theorem dX11_planIs_184 : decode cX11_planIs 184 = .ok (.ireturn, 1) := by decide +kernel
theorem dX11_planIs_185 : decode cX11_planIs 185 = .ok (.aload_n 3, 1) := by decide +kernel
theorem dX11_planIs_186 : decode cX11_planIs 186 = .ok (.getfield 149, 3) := by decide +kernel
theorem dX11_planIs_189 : decode cX11_planIs 189 = .ok (.ireturn, 1) := by decide +kernel
theorem dX11_planIs_190 : decode cX11_planIs 190 = .ok (.aload_n 3, 1) := by decide +kernel
theorem dX11_planIs_191 : decode cX11_planIs 191 = .ok (.getfield 407, 3) := by decide +kernel
theorem dX11_planIs_194 : decode cX11_planIs 194 = .ok (.ireturn, 1) := by decide +kernel
theorem dX11_planIs_195 : decode cX11_planIs 195 = .ok (.aload_n 3, 1) := by decide +kernel
theorem dX11_planIs_196 : decode cX11_planIs 196 = .ok (.getfield 410, 3) := by decide +kernel
theorem dX11_planIs_199 : decode cX11_planIs 199 = .ok (.ireturn, 1) := by decide +kernel
theorem dX11_planIs_200 : decode cX11_planIs 200 = .ok (.aload_n 3, 1) := by decide +kernel
theorem dX11_planIs_201 : decode cX11_planIs 201 = .ok (.getfield 413, 3) := by decide +kernel
theorem dX11_planIs_204 : decode cX11_planIs 204 = .ok (.ireturn, 1) := by decide +kernel
theorem dX11_planIs_205 : decode cX11_planIs 205 = .ok (.aload_n 3, 1) := by decide +kernel
theorem dX11_planIs_206 : decode cX11_planIs 206 = .ok (.getfield 416, 3) := by decide +kernel
theorem dX11_planIs_209 : decode cX11_planIs 209 = .ok (.getfield 392, 3) := by decide +kernel
theorem dX11_planIs_212 : decode cX11_planIs 212 = .ok (.ireturn, 1) := by decide +kernel
theorem dX11_planIs_213 : decode cX11_planIs 213 = .ok (.aload_n 3, 1) := by decide +kernel
theorem dX11_planIs_214 : decode cX11_planIs 214 = .ok (.getfield 419, 3) := by decide +kernel
theorem dX11_planIs_217 : decode cX11_planIs 217 = .ok (.getfield 392, 3) := by decide +kernel
theorem dX11_planIs_220 : decode cX11_planIs 220 = .ok (.ireturn, 1) := by decide +kernel
theorem dX11_planIs_221 : decode cX11_planIs 221 = .ok (.aload_n 3, 1) := by decide +kernel
theorem dX11_planIs_222 : decode cX11_planIs 222 = .ok (.getfield 422, 3) := by decide +kernel
theorem dX11_planIs_225 : decode cX11_planIs 225 = .ok (.getfield 392, 3) := by decide +kernel
theorem dX11_planIs_228 : decode cX11_planIs 228 = .ok (.ireturn, 1) := by decide +kernel
theorem dX11_planIs_229 : decode cX11_planIs 229 = .ok (.aload_n 3, 1) := by decide +kernel
theorem dX11_planIs_230 : decode cX11_planIs 230 = .ok (.getfield 425, 3) := by decide +kernel
theorem dX11_planIs_233 : decode cX11_planIs 233 = .ok (.getfield 392, 3) := by decide +kernel
theorem dX11_planIs_236 : decode cX11_planIs 236 = .ok (.ireturn, 1) := by decide +kernel
theorem dX11_planIs_237 : decode cX11_planIs 237 = .ok (.aload_n 0, 1) := by decide +kernel
theorem dX11_planIs_238 : decode cX11_planIs 238 = .ok (.aload_n 3, 1) := by decide +kernel
theorem dX11_planIs_239 : decode cX11_planIs 239 = .ok (.iload_n 2, 1) := by decide +kernel
theorem dX11_planIs_240 : decode cX11_planIs 240 = .ok (.invokevirtual 428, 3) := by decide +kernel
theorem dX11_planIs_243 : decode cX11_planIs 243 = .ok (.ireturn, 1) := by decide +kernel
theorem w_X11_planIs {sh : gS} {Q : Option gV → gS → gM → Prop} {a1 a2 : Int} {M : gM} (hOK : gOK sh M) (h : (∃ v1 : Int, gC (gr 0 0) yX11_isPlan cX11_isPlan 1 (some (.boolean)) [(0, a1)] sh M (gPp sh M (0, v1)) ∧
    (if v1 = 0 then
      (Q (some (0, -1)) sh M)
    else
      (if a2 < 0 then
        (Q (some (0, -1)) sh M)
      else
        (if (20 : Int) < a2 then
          (Q (some (0, -1)) sh M)
        else
          ((0 ≤ a1 ∧ a1 < 4) ∧
            ((gsh sh (519 + 48 * a1) = some (0, 6) ∧ (519 + 48 * a1) < 758) ∧
              (if (M (519 + 48 * a1) 0) = 0 then
                (Q (some (0, -2)) sh M)
              else
                (if a2 = 0 then
                  (Q (some (0, (M (519 + 48 * a1) 2))) sh M)
                else
                  (if a2 = 1 then
                    (Q (some (0, (M (519 + 48 * a1) 3))) sh M)
                  else
                    (if a2 = 2 then
                      ((gsh sh ((519 + 48 * a1) + 1) = some (0, 5) ∧ ((519 + 48 * a1) + 1) < 758) ∧
                        (Q (some (0, (M ((519 + 48 * a1) + 1) 0))) sh M))
                    else
                      (if a2 = 3 then
                        ((gsh sh ((519 + 48 * a1) + 4) = some (0, 5) ∧ ((519 + 48 * a1) + 4) < 758) ∧
                          (Q (some (0, (M ((519 + 48 * a1) + 4) 0))) sh M))
                      else
                        (if a2 = 4 then
                          ((gsh sh ((519 + 48 * a1) + 7) = some (0, 5) ∧ ((519 + 48 * a1) + 7) < 758) ∧
                            (Q (some (0, (M ((519 + 48 * a1) + 7) 0))) sh M))
                        else
                          (if a2 = 5 then
                            (Q (some (0, (M (519 + 48 * a1) 12))) sh M)
                          else
                            (if a2 = 6 then
                              (Q (some (0, (M (519 + 48 * a1) 13))) sh M)
                            else
                              (if a2 = 7 then
                                (Q (some (0, (M (519 + 48 * a1) 14))) sh M)
                              else
                                (if a2 = 8 then
                                  (∃ v240 : Int, gC (gr 1 21) yX11_mapIs cX11_mapIs 7 (some (.int)) [(4, 0), (4, (519 + 48 * a1)), (0, a2)] sh M (gPp sh M (0, v240)) ∧
                                    (Q (some (0, v240)) sh M))
                                else
                                  (if a2 = 9 then
                                    (∃ v240 : Int, gC (gr 1 21) yX11_mapIs cX11_mapIs 7 (some (.int)) [(4, 0), (4, (519 + 48 * a1)), (0, a2)] sh M (gPp sh M (0, v240)) ∧
                                      (Q (some (0, v240)) sh M))
                                  else
                                    (if a2 = 10 then
                                      (∃ v240 : Int, gC (gr 1 21) yX11_mapIs cX11_mapIs 7 (some (.int)) [(4, 0), (4, (519 + 48 * a1)), (0, a2)] sh M (gPp sh M (0, v240)) ∧
                                        (Q (some (0, v240)) sh M))
                                    else
                                      (if a2 = 11 then
                                        (∃ v240 : Int, gC (gr 1 21) yX11_mapIs cX11_mapIs 7 (some (.int)) [(4, 0), (4, (519 + 48 * a1)), (0, a2)] sh M (gPp sh M (0, v240)) ∧
                                          (Q (some (0, v240)) sh M))
                                      else
                                        (if a2 = 12 then
                                          (∃ v240 : Int, gC (gr 1 21) yX11_mapIs cX11_mapIs 7 (some (.int)) [(4, 0), (4, (519 + 48 * a1)), (0, a2)] sh M (gPp sh M (0, v240)) ∧
                                            (Q (some (0, v240)) sh M))
                                        else
                                          (if a2 = 13 then
                                            (Q (some (0, (M (519 + 48 * a1) 1))) sh M)
                                          else
                                            (if a2 = 14 then
                                              (Q (some (0, (M (519 + 48 * a1) 11))) sh M)
                                            else
                                              (if a2 = 15 then
                                                (Q (some (0, (M (519 + 48 * a1) 15))) sh M)
                                              else
                                                (if a2 = 16 then
                                                  (Q (some (0, (M (519 + 48 * a1) 16))) sh M)
                                                else
                                                  (if a2 = 17 then
                                                    ((gsh sh ((519 + 48 * a1) + 10) = some (0, 5) ∧ ((519 + 48 * a1) + 10) < 758) ∧
                                                      (Q (some (0, (M ((519 + 48 * a1) + 10) 0))) sh M))
                                                  else
                                                    (if a2 = 18 then
                                                      ((gsh sh ((519 + 48 * a1) + 13) = some (0, 5) ∧ ((519 + 48 * a1) + 13) < 758) ∧
                                                        (Q (some (0, (M ((519 + 48 * a1) + 13) 0))) sh M))
                                                    else
                                                      (if a2 = 19 then
                                                        ((gsh sh ((519 + 48 * a1) + 16) = some (0, 5) ∧ ((519 + 48 * a1) + 16) < 758) ∧
                                                          (Q (some (0, (M ((519 + 48 * a1) + 16) 0))) sh M))
                                                      else
                                                        (if a2 = 20 then
                                                          ((gsh sh ((519 + 48 * a1) + 19) = some (0, 5) ∧ ((519 + 48 * a1) + 19) < 758) ∧
                                                            (Q (some (0, (M ((519 + 48 * a1) + 19) 0))) sh M))
                                                        else
                                                          (∃ v240 : Int, gC (gr 1 21) yX11_mapIs cX11_mapIs 7 (some (.int)) [(4, 0), (4, (519 + 48 * a1)), (0, a2)] sh M (gPp sh M (0, v240)) ∧
                                                            (Q (some (0, v240)) sh M))))))))))))))))))))))))))))))) : gC (gr 2 47) yX11_planIs cX11_planIs 4 (some (.int)) [(4, 0), (0, a1), (0, a2)] sh M Q := by
  refine gC_ofA (lv := [_, _, _, _]) (by decide +kernel) (Nat.le_of_ble_eq_true rfl) rfl (fun hMw hav => ?_)
  refine g_iload_n (q0 := 1) (j := 1) rfl dX11_planIs_0 rfl ?_
  obtain ⟨v1, e1, h⟩ := h
  refine g_callSp (as := [_]) (rest := []) mt_X11_isPlan ms_X11_isPlan ml_X11_132 dX11_planIs_1 (q0 := 4) rfl rfl e1 rfl ⟨by decide, by decide⟩ (Nat.le_of_ble_eq_true rfl) ⟨Nat.zero_le _, Nat.zero_le _⟩ (fun _ => ?_)
  refine g_if_eq (q0 := 7) (tgt := 17) rfl dX11_planIs_4 (by decide) (fun h4 => ?_) (fun h4 => ?_)
  · replace h := wI_pos h4 h
    refine g_iconst (q0 := 18) rfl dX11_planIs_17 (k := ?_)
    exact g_ireturn dX11_planIs_18 rfl ⟨Nat.zero_le _, Nat.zero_le _⟩ h
  · replace h := wI_neg h4 h
    refine g_iload_n (q0 := 8) (j := 2) rfl dX11_planIs_7 rfl ?_
    refine g_if_lt (q0 := 11) (tgt := 17) rfl dX11_planIs_8 (by decide) (fun h8 => ?_) (fun h8 => ?_)
    · replace h := wI_pos h8 h
      refine g_iconst (q0 := 18) rfl dX11_planIs_17 (k := ?_)
      exact g_ireturn dX11_planIs_18 rfl ⟨Nat.zero_le _, Nat.zero_le _⟩ h
    · replace h := wI_neg (Int.not_lt.mpr h8) h
      refine g_iload_n (q0 := 12) (j := 2) rfl dX11_planIs_11 rfl ?_
      refine g_bipush (q0 := 14) rfl dX11_planIs_12 (k := ?_)
      refine g_icmp_le (q0 := 17) (tgt := 19) rfl dX11_planIs_14 (by decide) (fun h14 => ?_) (fun h14 => ?_)
      · replace h := wI_neg (Int.not_lt.mpr h14) h
        refine g_aload_n (q0 := 20) (j := 0) rfl dX11_planIs_19 rfl ?_
        refine g_getp (q0 := 23) (b := 409) rfl ff_X11_43 dX11_planIs_20 rfl hOK (by decide) (sh_0 hOK) rfl (by decide) ?_
        refine g_iload_n (q0 := 24) (j := 1) rfl dX11_planIs_23 rfl ?_
        obtain ⟨g1, h⟩ := h
        refine g_aald (q0 := 25) (q := 2) rfl dX11_planIs_24 (sh_409 hOK) rfl g1.1 g1.2 ?_
        rw [(hOK.2.2.2 _ g1.1 g1.2).2.2.1]
        refine g_astore_n (q0 := 26) (j := 3) (lv2 := [_, _, _, _]) rfl dX11_planIs_25 (by decide) rfl rfl ?_
        refine g_aload_n (q0 := 27) (j := 3) rfl dX11_planIs_26 rfl ?_
        obtain ⟨g2, h⟩ := h
        refine g_getf (q0 := 30) (t := 0) (fi := 0) rfl rfl ff_X11_189 dX11_planIs_27 rfl g2.1 ?_
        refine g_if_ne (q0 := 33) (tgt := 36) rfl dX11_planIs_30 (by decide) (fun h30 => ?_) (fun h30 => ?_)
        · replace h := wI_neg h30 h
          refine g_iload_n (q0 := 37) (j := 2) rfl dX11_planIs_36 rfl ?_
          by_cases hs0 : a2 = 0
          · replace h := wI_pos hs0 h
            refine g_tabIn (off := 99) (tgt := 136) dX11_planIs_37 (by omega) (by omega) (by rw [hs0]; rfl) (by decide) ?_
            refine g_aload_n (q0 := 137) (j := 3) rfl dX11_planIs_136 rfl ?_
            refine g_getf (q0 := 140) (t := 0) (fi := 2) rfl rfl ff_X11_193 dX11_planIs_137 rfl g2.1 ?_
            exact g_ireturn dX11_planIs_140 rfl ⟨Nat.zero_le _, Nat.zero_le _⟩ h
          · replace h := wI_neg hs0 h
            by_cases hs1 : a2 = 1
            · replace h := wI_pos hs1 h
              refine g_tabIn (off := 104) (tgt := 141) dX11_planIs_37 (by omega) (by omega) (by rw [hs1]; rfl) (by decide) ?_
              refine g_aload_n (q0 := 142) (j := 3) rfl dX11_planIs_141 rfl ?_
              refine g_getf (q0 := 145) (t := 0) (fi := 3) rfl rfl ff_X11_221 dX11_planIs_142 rfl g2.1 ?_
              exact g_ireturn dX11_planIs_145 rfl ⟨Nat.zero_le _, Nat.zero_le _⟩ h
            · replace h := wI_neg hs1 h
              by_cases hs2 : a2 = 2
              · replace h := wI_pos hs2 h
                refine g_tabIn (off := 109) (tgt := 146) dX11_planIs_37 (by omega) (by omega) (by rw [hs2]; rfl) (by decide) ?_
                refine g_aload_n (q0 := 147) (j := 3) rfl dX11_planIs_146 rfl ?_
                refine g_getp (q0 := 150) (b := ((519 + 48 * a1) + 1)) rfl ff_X11_388 dX11_planIs_147 rfl hOK g2.2 g2.1 rfl rfl ?_
                obtain ⟨g9, h⟩ := h
                refine g_getf (q0 := 153) (t := 0) (fi := 0) rfl rfl ff_X11_392 dX11_planIs_150 rfl g9.1 ?_
                exact g_ireturn dX11_planIs_153 rfl ⟨Nat.zero_le _, Nat.zero_le _⟩ h
              · replace h := wI_neg hs2 h
                by_cases hs3 : a2 = 3
                · replace h := wI_pos hs3 h
                  refine g_tabIn (off := 117) (tgt := 154) dX11_planIs_37 (by omega) (by omega) (by rw [hs3]; rfl) (by decide) ?_
                  refine g_aload_n (q0 := 155) (j := 3) rfl dX11_planIs_154 rfl ?_
                  refine g_getp (q0 := 158) (b := ((519 + 48 * a1) + 4)) rfl ff_X11_395 dX11_planIs_155 rfl hOK g2.2 g2.1 rfl rfl ?_
                  obtain ⟨g8, h⟩ := h
                  refine g_getf (q0 := 161) (t := 0) (fi := 0) rfl rfl ff_X11_392 dX11_planIs_158 rfl g8.1 ?_
                  exact g_ireturn dX11_planIs_161 rfl ⟨Nat.zero_le _, Nat.zero_le _⟩ h
                · replace h := wI_neg hs3 h
                  by_cases hs4 : a2 = 4
                  · replace h := wI_pos hs4 h
                    refine g_tabIn (off := 125) (tgt := 162) dX11_planIs_37 (by omega) (by omega) (by rw [hs4]; rfl) (by decide) ?_
                    refine g_aload_n (q0 := 163) (j := 3) rfl dX11_planIs_162 rfl ?_
                    refine g_getp (q0 := 166) (b := ((519 + 48 * a1) + 7)) rfl ff_X11_398 dX11_planIs_163 rfl hOK g2.2 g2.1 rfl rfl ?_
                    obtain ⟨g7, h⟩ := h
                    refine g_getf (q0 := 169) (t := 0) (fi := 0) rfl rfl ff_X11_392 dX11_planIs_166 rfl g7.1 ?_
                    exact g_ireturn dX11_planIs_169 rfl ⟨Nat.zero_le _, Nat.zero_le _⟩ h
                  · replace h := wI_neg hs4 h
                    by_cases hs5 : a2 = 5
                    · replace h := wI_pos hs5 h
                      refine g_tabIn (off := 133) (tgt := 170) dX11_planIs_37 (by omega) (by omega) (by rw [hs5]; rfl) (by decide) ?_
                      refine g_aload_n (q0 := 171) (j := 3) rfl dX11_planIs_170 rfl ?_
                      refine g_getf (q0 := 174) (t := 0) (fi := 12) rfl rfl ff_X11_401 dX11_planIs_171 rfl g2.1 ?_
                      exact g_ireturn dX11_planIs_174 rfl ⟨Nat.zero_le _, Nat.zero_le _⟩ h
                    · replace h := wI_neg hs5 h
                      by_cases hs6 : a2 = 6
                      · replace h := wI_pos hs6 h
                        refine g_tabIn (off := 138) (tgt := 175) dX11_planIs_37 (by omega) (by omega) (by rw [hs6]; rfl) (by decide) ?_
                        refine g_aload_n (q0 := 176) (j := 3) rfl dX11_planIs_175 rfl ?_
                        refine g_getf (q0 := 179) (t := 0) (fi := 13) rfl rfl ff_X11_404 dX11_planIs_176 rfl g2.1 ?_
                        exact g_ireturn dX11_planIs_179 rfl ⟨Nat.zero_le _, Nat.zero_le _⟩ h
                      · replace h := wI_neg hs6 h
                        by_cases hs7 : a2 = 7
                        · replace h := wI_pos hs7 h
                          refine g_tabIn (off := 143) (tgt := 180) dX11_planIs_37 (by omega) (by omega) (by rw [hs7]; rfl) (by decide) ?_
                          refine g_aload_n (q0 := 181) (j := 3) rfl dX11_planIs_180 rfl ?_
                          refine g_getf (q0 := 184) (t := 0) (fi := 14) rfl rfl ff_X11_235 dX11_planIs_181 rfl g2.1 ?_
                          exact g_ireturn dX11_planIs_184 rfl ⟨Nat.zero_le _, Nat.zero_le _⟩ h
                        · replace h := wI_neg hs7 h
                          by_cases hs8 : a2 = 8
                          · replace h := wI_pos hs8 h
                            refine g_tabIn (off := 200) (tgt := 237) dX11_planIs_37 (by omega) (by omega) (by rw [hs8]; rfl) (by decide) ?_
                            refine g_aload_n (q0 := 238) (j := 0) rfl dX11_planIs_237 rfl ?_
                            refine g_aload_n (q0 := 239) (j := 3) rfl dX11_planIs_238 rfl ?_
                            refine g_iload_n (q0 := 240) (j := 2) rfl dX11_planIs_239 rfl ?_
                            obtain ⟨v240, e240, h⟩ := h
                            refine g_callVp (as := [_, _]) (rest := []) mt_X11_mapIs mi_X11_mapIs se_X11_mapIs ml_X11_428 dX11_planIs_240 (q0 := 243) rfl rfl (sh_0 hOK) rfl rfl e240 rfl ⟨by decide, by decide⟩ (Nat.le_of_ble_eq_true rfl) ⟨Nat.zero_le _, Nat.zero_le _⟩ (fun _ => ?_)
                            exact g_ireturn dX11_planIs_243 rfl ⟨Nat.zero_le _, Nat.zero_le _⟩ h
                          · replace h := wI_neg hs8 h
                            by_cases hs9 : a2 = 9
                            · replace h := wI_pos hs9 h
                              refine g_tabIn (off := 200) (tgt := 237) dX11_planIs_37 (by omega) (by omega) (by rw [hs9]; rfl) (by decide) ?_
                              refine g_aload_n (q0 := 238) (j := 0) rfl dX11_planIs_237 rfl ?_
                              refine g_aload_n (q0 := 239) (j := 3) rfl dX11_planIs_238 rfl ?_
                              refine g_iload_n (q0 := 240) (j := 2) rfl dX11_planIs_239 rfl ?_
                              obtain ⟨v240, e240, h⟩ := h
                              refine g_callVp (as := [_, _]) (rest := []) mt_X11_mapIs mi_X11_mapIs se_X11_mapIs ml_X11_428 dX11_planIs_240 (q0 := 243) rfl rfl (sh_0 hOK) rfl rfl e240 rfl ⟨by decide, by decide⟩ (Nat.le_of_ble_eq_true rfl) ⟨Nat.zero_le _, Nat.zero_le _⟩ (fun _ => ?_)
                              exact g_ireturn dX11_planIs_243 rfl ⟨Nat.zero_le _, Nat.zero_le _⟩ h
                            · replace h := wI_neg hs9 h
                              by_cases hs10 : a2 = 10
                              · replace h := wI_pos hs10 h
                                refine g_tabIn (off := 200) (tgt := 237) dX11_planIs_37 (by omega) (by omega) (by rw [hs10]; rfl) (by decide) ?_
                                refine g_aload_n (q0 := 238) (j := 0) rfl dX11_planIs_237 rfl ?_
                                refine g_aload_n (q0 := 239) (j := 3) rfl dX11_planIs_238 rfl ?_
                                refine g_iload_n (q0 := 240) (j := 2) rfl dX11_planIs_239 rfl ?_
                                obtain ⟨v240, e240, h⟩ := h
                                refine g_callVp (as := [_, _]) (rest := []) mt_X11_mapIs mi_X11_mapIs se_X11_mapIs ml_X11_428 dX11_planIs_240 (q0 := 243) rfl rfl (sh_0 hOK) rfl rfl e240 rfl ⟨by decide, by decide⟩ (Nat.le_of_ble_eq_true rfl) ⟨Nat.zero_le _, Nat.zero_le _⟩ (fun _ => ?_)
                                exact g_ireturn dX11_planIs_243 rfl ⟨Nat.zero_le _, Nat.zero_le _⟩ h
                              · replace h := wI_neg hs10 h
                                by_cases hs11 : a2 = 11
                                · replace h := wI_pos hs11 h
                                  refine g_tabIn (off := 200) (tgt := 237) dX11_planIs_37 (by omega) (by omega) (by rw [hs11]; rfl) (by decide) ?_
                                  refine g_aload_n (q0 := 238) (j := 0) rfl dX11_planIs_237 rfl ?_
                                  refine g_aload_n (q0 := 239) (j := 3) rfl dX11_planIs_238 rfl ?_
                                  refine g_iload_n (q0 := 240) (j := 2) rfl dX11_planIs_239 rfl ?_
                                  obtain ⟨v240, e240, h⟩ := h
                                  refine g_callVp (as := [_, _]) (rest := []) mt_X11_mapIs mi_X11_mapIs se_X11_mapIs ml_X11_428 dX11_planIs_240 (q0 := 243) rfl rfl (sh_0 hOK) rfl rfl e240 rfl ⟨by decide, by decide⟩ (Nat.le_of_ble_eq_true rfl) ⟨Nat.zero_le _, Nat.zero_le _⟩ (fun _ => ?_)
                                  exact g_ireturn dX11_planIs_243 rfl ⟨Nat.zero_le _, Nat.zero_le _⟩ h
                                · replace h := wI_neg hs11 h
                                  by_cases hs12 : a2 = 12
                                  · replace h := wI_pos hs12 h
                                    refine g_tabIn (off := 200) (tgt := 237) dX11_planIs_37 (by omega) (by omega) (by rw [hs12]; rfl) (by decide) ?_
                                    refine g_aload_n (q0 := 238) (j := 0) rfl dX11_planIs_237 rfl ?_
                                    refine g_aload_n (q0 := 239) (j := 3) rfl dX11_planIs_238 rfl ?_
                                    refine g_iload_n (q0 := 240) (j := 2) rfl dX11_planIs_239 rfl ?_
                                    obtain ⟨v240, e240, h⟩ := h
                                    refine g_callVp (as := [_, _]) (rest := []) mt_X11_mapIs mi_X11_mapIs se_X11_mapIs ml_X11_428 dX11_planIs_240 (q0 := 243) rfl rfl (sh_0 hOK) rfl rfl e240 rfl ⟨by decide, by decide⟩ (Nat.le_of_ble_eq_true rfl) ⟨Nat.zero_le _, Nat.zero_le _⟩ (fun _ => ?_)
                                    exact g_ireturn dX11_planIs_243 rfl ⟨Nat.zero_le _, Nat.zero_le _⟩ h
                                  · replace h := wI_neg hs12 h
                                    by_cases hs13 : a2 = 13
                                    · replace h := wI_pos hs13 h
                                      refine g_tabIn (off := 148) (tgt := 185) dX11_planIs_37 (by omega) (by omega) (by rw [hs13]; rfl) (by decide) ?_
                                      refine g_aload_n (q0 := 186) (j := 3) rfl dX11_planIs_185 rfl ?_
                                      refine g_getf (q0 := 189) (t := 0) (fi := 1) rfl rfl ff_X11_149 dX11_planIs_186 rfl g2.1 ?_
                                      exact g_ireturn dX11_planIs_189 rfl ⟨Nat.zero_le _, Nat.zero_le _⟩ h
                                    · replace h := wI_neg hs13 h
                                      by_cases hs14 : a2 = 14
                                      · replace h := wI_pos hs14 h
                                        refine g_tabIn (off := 153) (tgt := 190) dX11_planIs_37 (by omega) (by omega) (by rw [hs14]; rfl) (by decide) ?_
                                        refine g_aload_n (q0 := 191) (j := 3) rfl dX11_planIs_190 rfl ?_
                                        refine g_getf (q0 := 194) (t := 0) (fi := 11) rfl rfl ff_X11_407 dX11_planIs_191 rfl g2.1 ?_
                                        exact g_ireturn dX11_planIs_194 rfl ⟨Nat.zero_le _, Nat.zero_le _⟩ h
                                      · replace h := wI_neg hs14 h
                                        by_cases hs15 : a2 = 15
                                        · replace h := wI_pos hs15 h
                                          refine g_tabIn (off := 158) (tgt := 195) dX11_planIs_37 (by omega) (by omega) (by rw [hs15]; rfl) (by decide) ?_
                                          refine g_aload_n (q0 := 196) (j := 3) rfl dX11_planIs_195 rfl ?_
                                          refine g_getf (q0 := 199) (t := 0) (fi := 15) rfl rfl ff_X11_410 dX11_planIs_196 rfl g2.1 ?_
                                          exact g_ireturn dX11_planIs_199 rfl ⟨Nat.zero_le _, Nat.zero_le _⟩ h
                                        · replace h := wI_neg hs15 h
                                          by_cases hs16 : a2 = 16
                                          · replace h := wI_pos hs16 h
                                            refine g_tabIn (off := 163) (tgt := 200) dX11_planIs_37 (by omega) (by omega) (by rw [hs16]; rfl) (by decide) ?_
                                            refine g_aload_n (q0 := 201) (j := 3) rfl dX11_planIs_200 rfl ?_
                                            refine g_getf (q0 := 204) (t := 0) (fi := 16) rfl rfl ff_X11_413 dX11_planIs_201 rfl g2.1 ?_
                                            exact g_ireturn dX11_planIs_204 rfl ⟨Nat.zero_le _, Nat.zero_le _⟩ h
                                          · replace h := wI_neg hs16 h
                                            by_cases hs17 : a2 = 17
                                            · replace h := wI_pos hs17 h
                                              refine g_tabIn (off := 168) (tgt := 205) dX11_planIs_37 (by omega) (by omega) (by rw [hs17]; rfl) (by decide) ?_
                                              refine g_aload_n (q0 := 206) (j := 3) rfl dX11_planIs_205 rfl ?_
                                              refine g_getp (q0 := 209) (b := ((519 + 48 * a1) + 10)) rfl ff_X11_416 dX11_planIs_206 rfl hOK g2.2 g2.1 rfl rfl ?_
                                              obtain ⟨g6, h⟩ := h
                                              refine g_getf (q0 := 212) (t := 0) (fi := 0) rfl rfl ff_X11_392 dX11_planIs_209 rfl g6.1 ?_
                                              exact g_ireturn dX11_planIs_212 rfl ⟨Nat.zero_le _, Nat.zero_le _⟩ h
                                            · replace h := wI_neg hs17 h
                                              by_cases hs18 : a2 = 18
                                              · replace h := wI_pos hs18 h
                                                refine g_tabIn (off := 176) (tgt := 213) dX11_planIs_37 (by omega) (by omega) (by rw [hs18]; rfl) (by decide) ?_
                                                refine g_aload_n (q0 := 214) (j := 3) rfl dX11_planIs_213 rfl ?_
                                                refine g_getp (q0 := 217) (b := ((519 + 48 * a1) + 13)) rfl ff_X11_419 dX11_planIs_214 rfl hOK g2.2 g2.1 rfl rfl ?_
                                                obtain ⟨g5, h⟩ := h
                                                refine g_getf (q0 := 220) (t := 0) (fi := 0) rfl rfl ff_X11_392 dX11_planIs_217 rfl g5.1 ?_
                                                exact g_ireturn dX11_planIs_220 rfl ⟨Nat.zero_le _, Nat.zero_le _⟩ h
                                              · replace h := wI_neg hs18 h
                                                by_cases hs19 : a2 = 19
                                                · replace h := wI_pos hs19 h
                                                  refine g_tabIn (off := 184) (tgt := 221) dX11_planIs_37 (by omega) (by omega) (by rw [hs19]; rfl) (by decide) ?_
                                                  refine g_aload_n (q0 := 222) (j := 3) rfl dX11_planIs_221 rfl ?_
                                                  refine g_getp (q0 := 225) (b := ((519 + 48 * a1) + 16)) rfl ff_X11_422 dX11_planIs_222 rfl hOK g2.2 g2.1 rfl rfl ?_
                                                  obtain ⟨g4, h⟩ := h
                                                  refine g_getf (q0 := 228) (t := 0) (fi := 0) rfl rfl ff_X11_392 dX11_planIs_225 rfl g4.1 ?_
                                                  exact g_ireturn dX11_planIs_228 rfl ⟨Nat.zero_le _, Nat.zero_le _⟩ h
                                                · replace h := wI_neg hs19 h
                                                  by_cases hs20 : a2 = 20
                                                  · replace h := wI_pos hs20 h
                                                    refine g_tabIn (off := 192) (tgt := 229) dX11_planIs_37 (by omega) (by omega) (by rw [hs20]; rfl) (by decide) ?_
                                                    refine g_aload_n (q0 := 230) (j := 3) rfl dX11_planIs_229 rfl ?_
                                                    refine g_getp (q0 := 233) (b := ((519 + 48 * a1) + 19)) rfl ff_X11_425 dX11_planIs_230 rfl hOK g2.2 g2.1 rfl rfl ?_
                                                    obtain ⟨g3, h⟩ := h
                                                    refine g_getf (q0 := 236) (t := 0) (fi := 0) rfl rfl ff_X11_392 dX11_planIs_233 rfl g3.1 ?_
                                                    exact g_ireturn dX11_planIs_236 rfl ⟨Nat.zero_le _, Nat.zero_le _⟩ h
                                                  · replace h := wI_neg hs20 h
                                                    refine g_tabOut (tgt := 237) dX11_planIs_37 (by omega) (by decide) ?_
                                                    refine g_aload_n (q0 := 238) (j := 0) rfl dX11_planIs_237 rfl ?_
                                                    refine g_aload_n (q0 := 239) (j := 3) rfl dX11_planIs_238 rfl ?_
                                                    refine g_iload_n (q0 := 240) (j := 2) rfl dX11_planIs_239 rfl ?_
                                                    obtain ⟨v240, e240, h⟩ := h
                                                    refine g_callVp (as := [_, _]) (rest := []) mt_X11_mapIs mi_X11_mapIs se_X11_mapIs ml_X11_428 dX11_planIs_240 (q0 := 243) rfl rfl (sh_0 hOK) rfl rfl e240 rfl ⟨by decide, by decide⟩ (Nat.le_of_ble_eq_true rfl) ⟨Nat.zero_le _, Nat.zero_le _⟩ (fun _ => ?_)
                                                    exact g_ireturn dX11_planIs_243 rfl ⟨Nat.zero_le _, Nat.zero_le _⟩ h
        · replace h := wI_pos h30 h
          refine g_bipush (q0 := 35) rfl dX11_planIs_33 (k := ?_)
          exact g_ireturn dX11_planIs_35 rfl ⟨Nat.zero_le _, Nat.zero_le _⟩ h
      · replace h := wI_pos h14 h
        refine g_iconst (q0 := 18) rfl dX11_planIs_17 (k := ?_)
        exact g_ireturn dX11_planIs_18 rfl ⟨Nat.zero_le _, Nat.zero_le _⟩ h
