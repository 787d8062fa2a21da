-- ==== X11_mapIs
theorem dX11_mapIs_0 : decode cX11_mapIs 0 = .ok (.iconst 0, 1) := by decide +kernel
theorem dX11_mapIs_1 : decode cX11_mapIs 1 = .ok (.istore_n 3, 1) := by decide +kernel
theorem dX11_mapIs_2 : decode cX11_mapIs 2 = .ok (.iconst 0, 1) := by decide +kernel
theorem dX11_mapIs_3 : decode cX11_mapIs 3 = .ok (.istore 4, 2) := by decide +kernel
theorem dX11_mapIs_5 : decode cX11_mapIs 5 = .ok (.iload 4, 2) := by decide +kernel
theorem dX11_mapIs_7 : decode cX11_mapIs 7 = .ok (.aload_n 0, 1) := by decide +kernel
theorem dX11_mapIs_8 : decode cX11_mapIs 8 = .ok (.getfield 27, 3) := by decide +kernel
theorem dX11_mapIs_11 : decode cX11_mapIs 11 = .ok (.getfield 135, 3) := by decide +kernel
theorem dX11_mapIs_14 : decode cX11_mapIs 14 = .ok (.if_icmp .ge 102, 3) := by decide +kernel
theorem dX11_mapIs_17 : decode cX11_mapIs 17 = .ok (.aload_n 1, 1) := by decide +kernel
theorem dX11_mapIs_18 : decode cX11_mapIs 18 = .ok (.iload 4, 2) := by decide +kernel
theorem dX11_mapIs_20 : decode cX11_mapIs 20 = .ok (.invokevirtual 432, 3) := by decide +kernel
theorem dX11_mapIs_23 : decode cX11_mapIs 23 = .ok (.ifCond .ne 6, 3) := by decide +kernel
theorem dX11_mapIs_26 : decode cX11_mapIs 26 = .ok (.goto 84, 3) := by decide +kernel
theorem dX11_mapIs_29 : decode cX11_mapIs 29 = .ok (.aload_n 1, 1) := by decide +kernel
theorem dX11_mapIs_30 : decode cX11_mapIs 30 = .ok (.getfield 435, 3) := by decide +kernel
theorem dX11_mapIs_33 : decode cX11_mapIs 33 = .ok (.iload 4, 2) := by decide +kernel
theorem dX11_mapIs_35 : decode cX11_mapIs 35 = .ok (.iaload, 1) := by decide +kernel
theorem dX11_mapIs_36 : decode cX11_mapIs 36 = .ok (.istore 5, 2) := by decide +kernel
theorem dX11_mapIs_38 : decode cX11_mapIs 38 = .ok (.iload_n 2, 1) := by decide +kernel
theorem dX11_mapIs_39 : decode cX11_mapIs 39 = .ok (.bipush 8, 2) := by decide +kernel
theorem dX11_mapIs_41 : decode cX11_mapIs 41 = .ok (.if_icmp .eq 54, 3) := by decide +kernel
theorem dX11_mapIs_44 : decode cX11_mapIs 44 = .ok (.iload_n 2, 1) := by decide +kernel
theorem dX11_mapIs_45 : decode cX11_mapIs 45 = .ok (.bipush 9, 2) := by decide +kernel
theorem dX11_mapIs_47 : decode cX11_mapIs 47 = .ok (.if_icmp .ne 8, 3) := by decide +kernel
theorem dX11_mapIs_50 : decode cX11_mapIs 50 = .ok (.iload 5, 2) := by decide +kernel
theorem dX11_mapIs_52 : decode cX11_mapIs 52 = .ok (.ifCond .eq 43, 3) := by decide +kernel
theorem dX11_mapIs_55 : decode cX11_mapIs 55 = .ok (.iload_n 2, 1) := by decide +kernel
theorem dX11_mapIs_56 : decode cX11_mapIs 56 = .ok (.bipush 10, 2) := by decide +kernel
theorem dX11_mapIs_58 : decode cX11_mapIs 58 = .ok (.if_icmp .ne 9, 3) := by decide +kernel
theorem dX11_mapIs_61 : decode cX11_mapIs 61 = .ok (.iload 5, 2) := by decide +kernel
theorem dX11_mapIs_63 : decode cX11_mapIs 63 = .ok (.iconst 1, 1) := by decide +kernel
theorem dX11_mapIs_64 : decode cX11_mapIs 64 = .ok (.if_icmp .eq 31, 3) := by decide +kernel
theorem dX11_mapIs_67 : decode cX11_mapIs 67 = .ok (.iload_n 2, 1) := by decide +kernel
theorem dX11_mapIs_68 : decode cX11_mapIs 68 = .ok (.bipush 11, 2) := by decide +kernel
theorem dX11_mapIs_70 : decode cX11_mapIs 70 = .ok (.if_icmp .ne 9, 3) := by decide +kernel
theorem dX11_mapIs_73 : decode cX11_mapIs 73 = .ok (.iload 5, 2) := by decide +kernel
theorem dX11_mapIs_75 : decode cX11_mapIs 75 = .ok (.iconst 2, 1) := by decide +kernel
theorem dX11_mapIs_76 : decode cX11_mapIs 76 = .ok (.if_icmp .eq 19, 3) := by decide +kernel
theorem dX11_mapIs_79 : decode cX11_mapIs 79 = .ok (.iload_n 2, 1) := by decide +kernel
theorem dX11_mapIs_80 : decode cX11_mapIs 80 = .ok (.bipush 12, 2) := by decide +kernel
theorem dX11_mapIs_82 : decode cX11_mapIs 82 = .ok (.if_icmp .ne 17, 3) := by decide +kernel
theorem dX11_mapIs_85 : decode cX11_mapIs 85 = .ok (.aload_n 1, 1) := by decide +kernel
theorem dX11_mapIs_86 : decode cX11_mapIs 86 = .ok (.getfield 436, 3) := by decide +kernel
theorem dX11_mapIs_89 : decode cX11_mapIs 89 = .ok (.iload 4, 2) := by decide +kernel
theorem dX11_mapIs_91 : decode cX11_mapIs 91 = .ok (.iaload, 1) := by decide +kernel
theorem dX11_mapIs_92 : decode cX11_mapIs 92 = .ok (.ifCond .ge 7, 3) := by decide +kernel
theorem dX11_mapIs_95 : decode cX11_mapIs 95 = .ok (.iconst 1, 1) := by decide +kernel
theorem dX11_mapIs_96 : decode cX11_mapIs 96 = .ok (.goto 4, 3) := by decide +kernel
theorem dX11_mapIs_99 : decode cX11_mapIs 99 = .ok (.iconst 0, 1) := by decide +kernel
theorem dX11_mapIs_100 : decode cX11_mapIs 100 = .ok (.istore 6, 2) := by decide +kernel
theorem dX11_mapIs_102 : decode cX11_mapIs 102 = .ok (.iload 6, 2) := by decide +kernel
theorem dX11_mapIs_104 : decode cX11_mapIs 104 = .ok (.ifCond .eq 6, 3) := by decide +kernel
theorem dX11_mapIs_107 : decode cX11_mapIs 107 = .ok (.iinc 3 1, 3) := by decide +kernel
theorem dX11_mapIs_110 : decode cX11_mapIs 110 = .ok (.iinc 4 1, 3) := by decide +kernel
theorem dX11_mapIs_113 : decode cX11_mapIs 113 = .ok (.goto (-108), 3) := by decide +kernel
theorem dX11_mapIs_116 : decode cX11_mapIs 116 = .ok (.iload_n 3, 1) := by decide +kernel
theorem dX11_mapIs_117 : decode cX11_mapIs 117 = .ok (.ireturn, 1) := by decide +kernel
def P_X11_mapIs_5 (sh : gS) (Q : Option gV → gS → gM → Prop) (x1 x2 x3 x4 : Int) (M : gM) : Prop := gA (gr 1 21) yX11_mapIs cX11_mapIs 7 (some (.int)) Q (0, 0) 5 [(4, 0), (4, x1), (0, x2), (0, x3), (0, x4), (9, 0), (9, 0)] [] sh M
def P_X11_mapIs_55 (sh : gS) (Q : Option gV → gS → gM → Prop) (x1 x2 x3 x4 x5 : Int) (M : gM) : Prop := gA (gr 1 21) yX11_mapIs cX11_mapIs 7 (some (.int)) Q (0, 0) 55 [(4, 0), (4, x1), (0, x2), (0, x3), (0, x4), (0, x5), (9, 0)] [] sh M
def P_X11_mapIs_79 (sh : gS) (Q : Option gV → gS → gM → Prop) (x1 x2 x3 x4 x5 : Int) (M : gM) : Prop := gA (gr 1 21) yX11_mapIs cX11_mapIs 7 (some (.int)) Q (0, 0) 79 [(4, 0), (4, x1), (0, x2), (0, x3), (0, x4), (0, x5), (9, 0)] [] sh M
theorem w_X11_mapIs_5 {sh : gS} {Q : Option gV → gS → gM → Prop} {x1 x2 x3 x4 : Int} {M : gM} (hOK : gOK sh M) (h : (if x4 < (M 4 0) then
    ((gsh sh x1 = some (0, 6) ∧ x1 < 758) ∧
      (∃ v20 : Int, gC (gr 0 0) yX5_isMapped cX5_isMapped 2 (some (.boolean)) [(4, x1), (0, x4)] sh M (gPp sh M (0, v20)) ∧
        (if v20 = 0 then
          (P_X11_mapIs_5 sh Q x1 x2 x3 (gw32 (x4 + 1)) M)
        else
          (∃ n2 : Nat, gsh sh (x1 + 23) = some (1, n2) ∧
            ((0 ≤ x4 ∧ x4 < (n2 : Int)) ∧
              (if x2 = 8 then
                (P_X11_mapIs_5 sh Q x1 x2 (gw32 (x3 + 1)) (gw32 (x4 + 1)) M)
              else
                (if x2 = 9 then
                  (if (M (x1 + 23) x4) = 0 then
                    (P_X11_mapIs_5 sh Q x1 x2 (gw32 (x3 + 1)) (gw32 (x4 + 1)) M)
                  else
                    (P_X11_mapIs_55 sh Q x1 x2 x3 x4 (M (x1 + 23) x4) M))
                else
                  (P_X11_mapIs_55 sh Q x1 x2 x3 x4 (M (x1 + 23) x4) M))))))))
  else
    (Q (some (0, x3)) sh M))) : P_X11_mapIs_5 sh Q x1 x2 x3 x4 M := by
  unfold P_X11_mapIs_5
  refine g_iload (q0 := 7) (j := 4) rfl dX11_mapIs_5 rfl ?_
  refine g_aload_n (q0 := 8) (j := 0) rfl dX11_mapIs_7 rfl ?_
  refine g_getp (q0 := 11) (b := 4) rfl ff_X11_27 dX11_mapIs_8 rfl hOK (by decide) (sh_0 hOK) rfl (by decide) ?_
  refine g_getf (q0 := 14) (t := 0) (fi := 0) rfl rfl ff_X11_135 dX11_mapIs_11 rfl (sh_4 hOK) ?_
  refine g_icmp_ge (q0 := 17) (tgt := 116) rfl dX11_mapIs_14 (by decide) (fun h14 => ?_) (fun h14 => ?_)
  · replace h := wI_neg (Int.not_lt.mpr h14) h
    refine g_iload_n (q0 := 117) (j := 3) rfl dX11_mapIs_116 rfl ?_
    exact g_ireturn dX11_mapIs_117 rfl ⟨Nat.zero_le _, Nat.zero_le _⟩ h
  · replace h := wI_pos h14 h
    refine g_aload_n (q0 := 18) (j := 1) rfl dX11_mapIs_17 rfl ?_
    refine g_iload (q0 := 20) (j := 4) rfl dX11_mapIs_18 rfl ?_
    obtain ⟨g1, h⟩ := h
    obtain ⟨v20, e20, h⟩ := h
    refine g_callVp (as := [_]) (rest := []) mt_X5_isMapped mi_X5_isMapped se_X5_isMapped ml_X11_432 dX11_mapIs_20 (q0 := 23) rfl rfl g1.1 rfl rfl e20 rfl ⟨by decide, by decide⟩ (Nat.le_of_ble_eq_true rfl) ⟨Nat.zero_le _, Nat.zero_le _⟩ (fun _ => ?_)
    refine g_if_ne (q0 := 26) (tgt := 29) rfl dX11_mapIs_23 (by decide) (fun h23 => ?_) (fun h23 => ?_)
    · replace h := wI_neg h23 h
      refine g_aload_n (q0 := 30) (j := 1) rfl dX11_mapIs_29 rfl ?_
      refine g_getp (q0 := 33) (b := (x1 + 23)) rfl ff_X11_435 dX11_mapIs_30 rfl hOK g1.2 g1.1 rfl rfl ?_
      refine g_iload (q0 := 35) (j := 4) rfl dX11_mapIs_33 rfl ?_
      obtain ⟨n2, sn2, h⟩ := h
      obtain ⟨g3, h⟩ := h
      refine g_iald (q0 := 36) rfl dX11_mapIs_35 sn2 g3.1 g3.2 ?_
      refine g_istore (q0 := 38) (j := 5) (lv2 := [_, _, _, _, _, _, _]) rfl dX11_mapIs_36 (by decide) rfl rfl ?_
      refine g_iload_n (q0 := 39) (j := 2) rfl dX11_mapIs_38 rfl ?_
      refine g_bipush (q0 := 41) rfl dX11_mapIs_39 (k := ?_)
      refine g_icmp_eq (q0 := 44) (tgt := 95) rfl dX11_mapIs_41 (by decide) (fun h41 => ?_) (fun h41 => ?_)
      · replace h := wI_pos h41 h
        refine g_iconst (q0 := 96) rfl dX11_mapIs_95 (k := ?_)
        refine g_goto (tgt := 100) dX11_mapIs_96 (by decide) ?_
        refine g_istore (q0 := 102) (j := 6) (lv2 := [_, _, _, _, _, _, _]) rfl dX11_mapIs_100 (by decide) rfl rfl ?_
        refine g_iload (q0 := 104) (j := 6) rfl dX11_mapIs_102 rfl ?_
        refine g_if_eq (q0 := 107) (tgt := 110) rfl dX11_mapIs_104 (by decide) (fun h104 => ?_) (fun h104 => ?_)
        · exact absurd h104 (by decide)
        · refine g_iincw (q0 := 110) (lv2 := [_, _, _, _, _, _, _]) rfl dX11_mapIs_107 rfl (by decide) rfl rfl ?_
          refine g_iincw (q0 := 113) (lv2 := [_, _, _, _, _, _, _]) rfl dX11_mapIs_110 rfl (by decide) rfl rfl ?_
          refine g_goto (tgt := 5) dX11_mapIs_113 (by decide) ?_
          refine gA_jk (lv1 := [_, _, _, _, _, (9, 0), (9, 0)]) ⟨.inl rfl, .inl rfl, .inl rfl, .inl rfl, .inl rfl, .inr rfl, .inr rfl, trivial⟩ ?_
          exact h
      · replace h := wI_neg h41 h
        refine g_iload_n (q0 := 45) (j := 2) rfl dX11_mapIs_44 rfl ?_
        refine g_bipush (q0 := 47) rfl dX11_mapIs_45 (k := ?_)
        refine g_icmp_ne (q0 := 50) (tgt := 55) rfl dX11_mapIs_47 (by decide) (fun h47 => ?_) (fun h47 => ?_)
        · replace h := wI_neg h47 h
          exact h
        · replace h := wI_pos h47 h
          refine g_iload (q0 := 52) (j := 5) rfl dX11_mapIs_50 rfl ?_
          refine g_if_eq (q0 := 55) (tgt := 95) rfl dX11_mapIs_52 (by decide) (fun h52 => ?_) (fun h52 => ?_)
          · replace h := wI_pos h52 h
            refine g_iconst (q0 := 96) rfl dX11_mapIs_95 (k := ?_)
            refine g_goto (tgt := 100) dX11_mapIs_96 (by decide) ?_
            refine g_istore (q0 := 102) (j := 6) (lv2 := [_, _, _, _, _, _, _]) rfl dX11_mapIs_100 (by decide) rfl rfl ?_
            refine g_iload (q0 := 104) (j := 6) rfl dX11_mapIs_102 rfl ?_
            refine g_if_eq (q0 := 107) (tgt := 110) rfl dX11_mapIs_104 (by decide) (fun h104 => ?_) (fun h104 => ?_)
            · exact absurd h104 (by decide)
            · refine g_iincw (q0 := 110) (lv2 := [_, _, _, _, _, _, _]) rfl dX11_mapIs_107 rfl (by decide) rfl rfl ?_
              refine g_iincw (q0 := 113) (lv2 := [_, _, _, _, _, _, _]) rfl dX11_mapIs_110 rfl (by decide) rfl rfl ?_
              refine g_goto (tgt := 5) dX11_mapIs_113 (by decide) ?_
              refine gA_jk (lv1 := [_, _, _, _, _, (9, 0), (9, 0)]) ⟨.inl rfl, .inl rfl, .inl rfl, .inl rfl, .inl rfl, .inr rfl, .inr rfl, trivial⟩ ?_
              exact h
          · replace h := wI_neg h52 h
            exact h
    · replace h := wI_pos h23 h
      refine g_goto (tgt := 110) dX11_mapIs_26 (by decide) ?_
      refine g_iincw (q0 := 113) (lv2 := [_, _, _, _, _, _, _]) rfl dX11_mapIs_110 rfl (by decide) rfl rfl ?_
      refine g_goto (tgt := 5) dX11_mapIs_113 (by decide) ?_
      exact h
theorem w_X11_mapIs_55 {sh : gS} {Q : Option gV → gS → gM → Prop} {x1 x2 x3 x4 x5 : Int} {M : gM} (hOK : gOK sh M) (h : (if x2 = 10 then
    (if x5 = 1 then
      (P_X11_mapIs_5 sh Q x1 x2 (gw32 (x3 + 1)) (gw32 (x4 + 1)) M)
    else
      (if x2 = 11 then
        (if x5 = 2 then
          (P_X11_mapIs_5 sh Q x1 x2 (gw32 (x3 + 1)) (gw32 (x4 + 1)) M)
        else
          (P_X11_mapIs_79 sh Q x1 x2 x3 x4 x5 M))
      else
        (P_X11_mapIs_79 sh Q x1 x2 x3 x4 x5 M)))
  else
    (if x2 = 11 then
      (if x5 = 2 then
        (P_X11_mapIs_5 sh Q x1 x2 (gw32 (x3 + 1)) (gw32 (x4 + 1)) M)
      else
        (P_X11_mapIs_79 sh Q x1 x2 x3 x4 x5 M))
    else
      (P_X11_mapIs_79 sh Q x1 x2 x3 x4 x5 M)))) : P_X11_mapIs_55 sh Q x1 x2 x3 x4 x5 M := by
  unfold P_X11_mapIs_55
  refine g_iload_n (q0 := 56) (j := 2) rfl dX11_mapIs_55 rfl ?_
  refine g_bipush (q0 := 58) rfl dX11_mapIs_56 (k := ?_)
  refine g_icmp_ne (q0 := 61) (tgt := 67) rfl dX11_mapIs_58 (by decide) (fun h58 => ?_) (fun h58 => ?_)
  · replace h := wI_neg h58 h
    refine g_iload_n (q0 := 68) (j := 2) rfl dX11_mapIs_67 rfl ?_
    refine g_bipush (q0 := 70) rfl dX11_mapIs_68 (k := ?_)
    refine g_icmp_ne (q0 := 73) (tgt := 79) rfl dX11_mapIs_70 (by decide) (fun h70 => ?_) (fun h70 => ?_)
    · replace h := wI_neg h70 h
      exact h
    · replace h := wI_pos h70 h
      refine g_iload (q0 := 75) (j := 5) rfl dX11_mapIs_73 rfl ?_
      refine g_iconst (q0 := 76) rfl dX11_mapIs_75 (k := ?_)
      refine g_icmp_eq (q0 := 79) (tgt := 95) rfl dX11_mapIs_76 (by decide) (fun h76 => ?_) (fun h76 => ?_)
      · replace h := wI_pos h76 h
        refine g_iconst (q0 := 96) rfl dX11_mapIs_95 (k := ?_)
        refine g_goto (tgt := 100) dX11_mapIs_96 (by decide) ?_
        refine g_istore (q0 := 102) (j := 6) (lv2 := [_, _, _, _, _, _, _]) rfl dX11_mapIs_100 (by decide) rfl rfl ?_
        refine g_iload (q0 := 104) (j := 6) rfl dX11_mapIs_102 rfl ?_
        refine g_if_eq (q0 := 107) (tgt := 110) rfl dX11_mapIs_104 (by decide) (fun h104 => ?_) (fun h104 => ?_)
        · exact absurd h104 (by decide)
        · refine g_iincw (q0 := 110) (lv2 := [_, _, _, _, _, _, _]) rfl dX11_mapIs_107 rfl (by decide) rfl rfl ?_
          refine g_iincw (q0 := 113) (lv2 := [_, _, _, _, _, _, _]) rfl dX11_mapIs_110 rfl (by decide) rfl rfl ?_
          refine g_goto (tgt := 5) dX11_mapIs_113 (by decide) ?_
          refine gA_jk (lv1 := [_, _, _, _, _, (9, 0), (9, 0)]) ⟨.inl rfl, .inl rfl, .inl rfl, .inl rfl, .inl rfl, .inr rfl, .inr rfl, trivial⟩ ?_
          exact h
      · replace h := wI_neg h76 h
        exact h
  · replace h := wI_pos h58 h
    refine g_iload (q0 := 63) (j := 5) rfl dX11_mapIs_61 rfl ?_
    refine g_iconst (q0 := 64) rfl dX11_mapIs_63 (k := ?_)
    refine g_icmp_eq (q0 := 67) (tgt := 95) rfl dX11_mapIs_64 (by decide) (fun h64 => ?_) (fun h64 => ?_)
    · replace h := wI_pos h64 h
      refine g_iconst (q0 := 96) rfl dX11_mapIs_95 (k := ?_)
      refine g_goto (tgt := 100) dX11_mapIs_96 (by decide) ?_
      refine g_istore (q0 := 102) (j := 6) (lv2 := [_, _, _, _, _, _, _]) rfl dX11_mapIs_100 (by decide) rfl rfl ?_
      refine g_iload (q0 := 104) (j := 6) rfl dX11_mapIs_102 rfl ?_
      refine g_if_eq (q0 := 107) (tgt := 110) rfl dX11_mapIs_104 (by decide) (fun h104 => ?_) (fun h104 => ?_)
      · exact absurd h104 (by decide)
      · refine g_iincw (q0 := 110) (lv2 := [_, _, _, _, _, _, _]) rfl dX11_mapIs_107 rfl (by decide) rfl rfl ?_
        refine g_iincw (q0 := 113) (lv2 := [_, _, _, _, _, _, _]) rfl dX11_mapIs_110 rfl (by decide) rfl rfl ?_
        refine g_goto (tgt := 5) dX11_mapIs_113 (by decide) ?_
        refine gA_jk (lv1 := [_, _, _, _, _, (9, 0), (9, 0)]) ⟨.inl rfl, .inl rfl, .inl rfl, .inl rfl, .inl rfl, .inr rfl, .inr rfl, trivial⟩ ?_
        exact h
    · replace h := wI_neg h64 h
      refine g_iload_n (q0 := 68) (j := 2) rfl dX11_mapIs_67 rfl ?_
      refine g_bipush (q0 := 70) rfl dX11_mapIs_68 (k := ?_)
      refine g_icmp_ne (q0 := 73) (tgt := 79) rfl dX11_mapIs_70 (by decide) (fun h70 => ?_) (fun h70 => ?_)
      · replace h := wI_neg h70 h
        exact h
      · replace h := wI_pos h70 h
        refine g_iload (q0 := 75) (j := 5) rfl dX11_mapIs_73 rfl ?_
        refine g_iconst (q0 := 76) rfl dX11_mapIs_75 (k := ?_)
        refine g_icmp_eq (q0 := 79) (tgt := 95) rfl dX11_mapIs_76 (by decide) (fun h76 => ?_) (fun h76 => ?_)
        · replace h := wI_pos h76 h
          refine g_iconst (q0 := 96) rfl dX11_mapIs_95 (k := ?_)
          refine g_goto (tgt := 100) dX11_mapIs_96 (by decide) ?_
          refine g_istore (q0 := 102) (j := 6) (lv2 := [_, _, _, _, _, _, _]) rfl dX11_mapIs_100 (by decide) rfl rfl ?_
          refine g_iload (q0 := 104) (j := 6) rfl dX11_mapIs_102 rfl ?_
          refine g_if_eq (q0 := 107) (tgt := 110) rfl dX11_mapIs_104 (by decide) (fun h104 => ?_) (fun h104 => ?_)
          · exact absurd h104 (by decide)
          · refine g_iincw (q0 := 110) (lv2 := [_, _, _, _, _, _, _]) rfl dX11_mapIs_107 rfl (by decide) rfl rfl ?_
            refine g_iincw (q0 := 113) (lv2 := [_, _, _, _, _, _, _]) rfl dX11_mapIs_110 rfl (by decide) rfl rfl ?_
            refine g_goto (tgt := 5) dX11_mapIs_113 (by decide) ?_
            refine gA_jk (lv1 := [_, _, _, _, _, (9, 0), (9, 0)]) ⟨.inl rfl, .inl rfl, .inl rfl, .inl rfl, .inl rfl, .inr rfl, .inr rfl, trivial⟩ ?_
            exact h
        · replace h := wI_neg h76 h
          exact h
theorem w_X11_mapIs_79 {sh : gS} {Q : Option gV → gS → gM → Prop} {x1 x2 x3 x4 x5 : Int} {M : gM} (hOK : gOK sh M) (h : (if x2 = 12 then
    ((gsh sh x1 = some (0, 6) ∧ x1 < 758) ∧
      (∃ n5 : Nat, gsh sh (x1 + 22) = some (1, n5) ∧
        ((0 ≤ x4 ∧ x4 < (n5 : Int)) ∧
          (if (M (x1 + 22) x4) < 0 then
            (P_X11_mapIs_5 sh Q x1 x2 (gw32 (x3 + 1)) (gw32 (x4 + 1)) M)
          else
            (P_X11_mapIs_5 sh Q x1 x2 x3 (gw32 (x4 + 1)) M)))))
  else
    (P_X11_mapIs_5 sh Q x1 x2 x3 (gw32 (x4 + 1)) M))) : P_X11_mapIs_79 sh Q x1 x2 x3 x4 x5 M := by
  unfold P_X11_mapIs_79
  refine g_iload_n (q0 := 80) (j := 2) rfl dX11_mapIs_79 rfl ?_
  refine g_bipush (q0 := 82) rfl dX11_mapIs_80 (k := ?_)
  refine g_icmp_ne (q0 := 85) (tgt := 99) rfl dX11_mapIs_82 (by decide) (fun h82 => ?_) (fun h82 => ?_)
  · replace h := wI_neg h82 h
    refine g_iconst (q0 := 100) rfl dX11_mapIs_99 (k := ?_)
    refine g_istore (q0 := 102) (j := 6) (lv2 := [_, _, _, _, _, _, _]) rfl dX11_mapIs_100 (by decide) rfl rfl ?_
    refine g_iload (q0 := 104) (j := 6) rfl dX11_mapIs_102 rfl ?_
    refine g_if_eq (q0 := 107) (tgt := 110) rfl dX11_mapIs_104 (by decide) (fun h104 => ?_) (fun h104 => ?_)
    · refine g_iincw (q0 := 113) (lv2 := [_, _, _, _, _, _, _]) rfl dX11_mapIs_110 rfl (by decide) rfl rfl ?_
      refine g_goto (tgt := 5) dX11_mapIs_113 (by decide) ?_
      refine gA_jk (lv1 := [_, _, _, _, _, (9, 0), (9, 0)]) ⟨.inl rfl, .inl rfl, .inl rfl, .inl rfl, .inl rfl, .inr rfl, .inr rfl, trivial⟩ ?_
      exact h
    · exact absurd h104 (by decide)
  · replace h := wI_pos h82 h
    refine g_aload_n (q0 := 86) (j := 1) rfl dX11_mapIs_85 rfl ?_
    obtain ⟨g4, h⟩ := h
    refine g_getp (q0 := 89) (b := (x1 + 22)) rfl ff_X11_436 dX11_mapIs_86 rfl hOK g4.2 g4.1 rfl rfl ?_
    refine g_iload (q0 := 91) (j := 4) rfl dX11_mapIs_89 rfl ?_
    obtain ⟨n5, sn5, h⟩ := h
    obtain ⟨g6, h⟩ := h
    refine g_iald (q0 := 92) rfl dX11_mapIs_91 sn5 g6.1 g6.2 ?_
    refine g_if_ge (q0 := 95) (tgt := 99) rfl dX11_mapIs_92 (by decide) (fun h92 => ?_) (fun h92 => ?_)
    · replace h := wI_neg (Int.not_lt.mpr h92) h
      refine g_iconst (q0 := 100) rfl dX11_mapIs_99 (k := ?_)
      refine g_istore (q0 := 102) (j := 6) (lv2 := [_, _, _, _, _, _, _]) rfl dX11_mapIs_100 (by decide) rfl rfl ?_
      refine g_iload (q0 := 104) (j := 6) rfl dX11_mapIs_102 rfl ?_
      refine g_if_eq (q0 := 107) (tgt := 110) rfl dX11_mapIs_104 (by decide) (fun h104 => ?_) (fun h104 => ?_)
      · refine g_iincw (q0 := 113) (lv2 := [_, _, _, _, _, _, _]) rfl dX11_mapIs_110 rfl (by decide) rfl rfl ?_
        refine g_goto (tgt := 5) dX11_mapIs_113 (by decide) ?_
        refine gA_jk (lv1 := [_, _, _, _, _, (9, 0), (9, 0)]) ⟨.inl rfl, .inl rfl, .inl rfl, .inl rfl, .inl rfl, .inr rfl, .inr rfl, trivial⟩ ?_
        exact h
      · exact absurd h104 (by decide)
    · replace h := wI_pos h92 h
      refine g_iconst (q0 := 96) rfl dX11_mapIs_95 (k := ?_)
      refine g_goto (tgt := 100) dX11_mapIs_96 (by decide) ?_
      refine g_istore (q0 := 102) (j := 6) (lv2 := [_, _, _, _, _, _, _]) rfl dX11_mapIs_100 (by decide) rfl rfl ?_
      refine g_iload (q0 := 104) (j := 6) rfl dX11_mapIs_102 rfl ?_
      refine g_if_eq (q0 := 107) (tgt := 110) rfl dX11_mapIs_104 (by decide) (fun h104 => ?_) (fun h104 => ?_)
      · exact absurd h104 (by decide)
      · refine g_iincw (q0 := 110) (lv2 := [_, _, _, _, _, _, _]) rfl dX11_mapIs_107 rfl (by decide) rfl rfl ?_
        refine g_iincw (q0 := 113) (lv2 := [_, _, _, _, _, _, _]) rfl dX11_mapIs_110 rfl (by decide) rfl rfl ?_
        refine g_goto (tgt := 5) dX11_mapIs_113 (by decide) ?_
        refine gA_jk (lv1 := [_, _, _, _, _, (9, 0), (9, 0)]) ⟨.inl rfl, .inl rfl, .inl rfl, .inl rfl, .inl rfl, .inr rfl, .inr rfl, trivial⟩ ?_
        exact h
theorem w_X11_mapIs {sh : gS} {Q : Option gV → gS → gM → Prop} {a1 a2 : Int} {M : gM} (hOK : gOK sh M) (h : (P_X11_mapIs_5 sh Q a1 a2 0 0 M)) : gC (gr 1 21) yX11_mapIs cX11_mapIs 7 (some (.int)) [(4, 0), (4, a1), (0, a2)] sh M Q := by
  refine gC_ofA (lv := [_, _, _, _, _, _, _]) (by decide +kernel) (Nat.le_of_ble_eq_true rfl) rfl (fun hMw hav => ?_)
  refine g_iconst (q0 := 1) rfl dX11_mapIs_0 (k := ?_)
  refine g_istore_n (q0 := 2) (j := 3) (lv2 := [_, _, _, _, _, _, _]) rfl dX11_mapIs_1 (by decide) rfl rfl ?_
  refine g_iconst (q0 := 3) rfl dX11_mapIs_2 (k := ?_)
  refine g_istore (q0 := 5) (j := 4) (lv2 := [_, _, _, _, _, _, _]) rfl dX11_mapIs_3 (by decide) rfl rfl ?_
  exact h
-- ==== X11_image
theorem dX11_image_0 : decode cX11_image 0 = .ok (.iload_n 1, 1) := by decide +kernel
theorem dX11_image_1 : decode cX11_image 1 = .ok (.invokestatic 132, 3) := by decide +kernel
theorem dX11_image_4 : decode cX11_image 4 = .ok (.ifCond .eq 23, 3) := by decide +kernel
theorem dX11_image_7 : decode cX11_image 7 = .ok (.aload_n 0, 1) := by decide +kernel
theorem dX11_image_8 : decode cX11_image 8 = .ok (.getfield 27, 3) := by decide +kernel
theorem dX11_image_11 : decode cX11_image 11 = .ok (.iload_n 2, 1) := by decide +kernel
theorem dX11_image_12 : decode cX11_image 12 = .ok (.invokevirtual 152, 3) := by decide +kernel
theorem dX11_image_15 : decode cX11_image 15 = .ok (.ifCond .eq 12, 3) := by decide +kernel
theorem dX11_image_18 : decode cX11_image 18 = .ok (.iload_n 3, 1) := by decide +kernel
theorem dX11_image_19 : decode cX11_image 19 = .ok (.ifCond .lt 8, 3) := by decide +kernel
theorem dX11_image_22 : decode cX11_image 22 = .ok (.iload_n 3, 1) := by decide +kernel
theorem dX11_image_23 : decode cX11_image 23 = .ok (.iconst 1, 1) := by decide +kernel
theorem dX11_image_24 : decode cX11_image 24 = .ok (.if_icmp .le 5, 3) := by decide +kernel
theorem dX11_image_27 : decode cX11_image 27 = .ok (.iconst (-1), 1) := by decide +kernel
theorem dX11_image_28 : decode cX11_image 28 = .ok (.ireturn, 1) := by decide +kernel
theorem dX11_image_29 : decode cX11_image 29 = .ok (.aload_n 0, 1) := by decide +kernel
theorem dX11_image_30 : decode cX11_image 30 = .ok (.getfield 43, 3) := by decide +kernel
theorem dX11_image_33 : decode cX11_image 33 = .ok (.iload_n 1, 1) := by decide +kernel
theorem dX11_image_34 : decode cX11_image 34 = .ok (.aaload, 1) := by decide +kernel
theorem dX11_image_35 : decode cX11_image 35 = .ok (.astore 4, 2) := by decide +kernel
theorem dX11_image_37 : decode cX11_image 37 = .ok (.aload 4, 2) := by decide +kernel
theorem dX11_image_39 : decode cX11_image 39 = .ok (.getfield 189, 3) := by decide +kernel
theorem dX11_image_42 : decode cX11_image 42 = .ok (.ifCond .ne 6, 3) := by decide +kernel
theorem dX11_image_45 : decode cX11_image 45 = .ok (.bipush (-3), 2) := by decide +kernel
theorem dX11_image_47 : decode cX11_image 47 = .ok (.ireturn, 1) := by decide +kernel
theorem dX11_image_48 : decode cX11_image 48 = .ok (.aload 4, 2) := by decide +kernel
theorem dX11_image_50 : decode cX11_image 50 = .ok (.iload_n 2, 1) := by decide +kernel
theorem dX11_image_51 : decode cX11_image 51 = .ok (.invokevirtual 432, 3) := by decide +kernel
theorem dX11_image_54 : decode cX11_image 54 = .ok (.ifCond .ne 6, 3) := by decide +kernel
theorem dX11_image_57 : decode cX11_image 57 = .ok (.bipush (-4), 2) := by decide +kernel
theorem dX11_image_59 : decode cX11_image 59 = .ok (.ireturn, 1) := by decide +kernel
theorem dX11_image_60 : decode cX11_image 60 = .ok (.iload_n 3, 1) := by decide +kernel
theorem dX11_image_61 : decode cX11_image 61 = .ok (.iconst 1, 1) := by decide +kernel
theorem dX11_image_62 : decode cX11_image 62 = .ok (.if_icmp .ne 11, 3) := by decide +kernel
theorem dX11_image_65 : decode cX11_image 65 = .ok (.aload 4, 2) := by decide +kernel
theorem dX11_image_67 : decode cX11_image 67 = .ok (.getfield 435, 3) := by decide +kernel
theorem dX11_image_70 : decode cX11_image 70 = .ok (.iload_n 2, 1) := by decide +kernel
theorem dX11_image_71 : decode cX11_image 71 = .ok (.iaload, 1) := by decide +kernel
theorem dX11_image_72 : decode cX11_image 72 = .ok (.ireturn, 1) := by decide +kernel
theorem dX11_image_73 : decode cX11_image 73 = .ok (.aload 4, 2) := by decide +kernel
theorem dX11_image_75 : decode cX11_image 75 = .ok (.getfield 436, 3) := by decide +kernel
theorem dX11_image_78 : decode cX11_image 78 = .ok (.iload_n 2, 1) := by decide +kernel
theorem dX11_image_79 : decode cX11_image 79 = .ok (.iaload, 1) := by decide +kernel
theorem dX11_image_80 : decode cX11_image 80 = .ok (.ifCond .ge 8, 3) := by decide +kernel
theorem dX11_image_83 : decode cX11_image 83 = .ok (.bipush (-2), 2) := by decide +kernel
theorem dX11_image_85 : decode cX11_image 85 = .ok (.goto 10, 3) := by decide +kernel
theorem dX11_image_88 : decode cX11_image 88 = .ok (.aload 4, 2) := by decide +kernel
theorem dX11_image_90 : decode cX11_image 90 = .ok (.getfield 436, 3) := by decide +kernel
theorem dX11_image_93 : decode cX11_image 93 = .ok (.iload_n 2, 1) := by decide +kernel
theorem dX11_image_94 : decode cX11_image 94 = .ok (.iaload, 1) := by decide +kernel
theorem dX11_image_95 : decode cX11_image 95 = .ok (.ireturn, 1) := by decide +kernel
theorem w_X11_image {sh : gS} {Q : Option gV → gS → gM → Prop} {a1 a2 a3 : Int} {M : gM} (hOK : gOK sh M) (h : (∃ v1 : Int, gC (gr 0 0) yX11_isPlan cX11_isPlan 1 (some (.boolean)) [(0, a1)] sh M (gPp sh M (0, v1)) ∧
    (if v1 = 0 then
      (Q (some (0, -1)) sh M)
    else
      (∃ v12 : Int, gC (gr 0 0) yX1_has cX1_has 2 (some (.boolean)) [(4, 4), (0, a2)] sh M (gPp sh M (0, v12)) ∧
        (if v12 = 0 then
          (Q (some (0, -1)) sh M)
        else
          (if a3 < 0 then
            (Q (some (0, -1)) sh M)
          else
            (if (1 : Int) < a3 then
              (Q (some (0, -1)) sh M)
            else
              ((0 ≤ a1 ∧ a1 < 4) ∧
                ((gsh sh (519 + 48 * a1) = some (0, 6) ∧ (519 + 48 * a1) < 758) ∧
                  (if (M (519 + 48 * a1) 0) = 0 then
                    (Q (some (0, -3)) sh M)
                  else
                    (∃ v51 : Int, gC (gr 0 0) yX5_isMapped cX5_isMapped 2 (some (.boolean)) [(4, (519 + 48 * a1)), (0, a2)] sh M (gPp sh M (0, v51)) ∧
                      (if v51 = 0 then
                        (Q (some (0, -4)) sh M)
                      else
                        (if a3 = 1 then
                          (∃ n5 : Nat, gsh sh ((519 + 48 * a1) + 23) = some (1, n5) ∧
                            ((0 ≤ a2 ∧ a2 < (n5 : Int)) ∧
                              (Q (some (0, (M ((519 + 48 * a1) + 23) a2))) sh M)))
                        else
                          (∃ n3 : Nat, gsh sh ((519 + 48 * a1) + 22) = some (1, n3) ∧
                            ((0 ≤ a2 ∧ a2 < (n3 : Int)) ∧
                              (if (M ((519 + 48 * a1) + 22) a2) < 0 then
                                (Q (some (0, -2)) sh M)
                              else
                                (Q (some (0, (M ((519 + 48 * a1) + 22) a2))) sh M))))))))))))))))) : gC (gr 1 21) yX11_image cX11_image 5 (some (.int)) [(4, 0), (0, a1), (0, a2), (0, a3)] sh M Q := by
  refine gC_ofA (lv := [_, _, _, _, _]) (by decide +kernel) (Nat.le_of_ble_eq_true rfl) rfl (fun hMw hav => ?_)
  refine g_iload_n (q0 := 1) (j := 1) rfl dX11_image_0 rfl ?_
  obtain ⟨v1, e1, h⟩ := h
  refine g_callSp (as := [_]) (rest := []) mt_X11_isPlan ms_X11_isPlan ml_X11_132 dX11_image_1 (q0 := 4) rfl rfl e1 rfl ⟨by decide, by decide⟩ (Nat.le_of_ble_eq_true rfl) ⟨Nat.zero_le _, Nat.zero_le _⟩ (fun _ => ?_)
  refine g_if_eq (q0 := 7) (tgt := 27) rfl dX11_image_4 (by decide) (fun h4 => ?_) (fun h4 => ?_)
  · replace h := wI_pos h4 h
    refine g_iconst (q0 := 28) rfl dX11_image_27 (k := ?_)
    exact g_ireturn dX11_image_28 rfl ⟨Nat.zero_le _, Nat.zero_le _⟩ h
  · replace h := wI_neg h4 h
    refine g_aload_n (q0 := 8) (j := 0) rfl dX11_image_7 rfl ?_
    refine g_getp (q0 := 11) (b := 4) rfl ff_X11_27 dX11_image_8 rfl hOK (by decide) (sh_0 hOK) rfl (by decide) ?_
    refine g_iload_n (q0 := 12) (j := 2) rfl dX11_image_11 rfl ?_
    obtain ⟨v12, e12, h⟩ := h
    refine g_callVp (as := [_]) (rest := []) mt_X1_has mi_X1_has se_X1_has ml_X11_152 dX11_image_12 (q0 := 15) rfl rfl (sh_4 hOK) rfl rfl e12 rfl ⟨by decide, by decide⟩ (Nat.le_of_ble_eq_true rfl) ⟨Nat.zero_le _, Nat.zero_le _⟩ (fun _ => ?_)
    refine g_if_eq (q0 := 18) (tgt := 27) rfl dX11_image_15 (by decide) (fun h15 => ?_) (fun h15 => ?_)
    · replace h := wI_pos h15 h
      refine g_iconst (q0 := 28) rfl dX11_image_27 (k := ?_)
      exact g_ireturn dX11_image_28 rfl ⟨Nat.zero_le _, Nat.zero_le _⟩ h
    · replace h := wI_neg h15 h
      refine g_iload_n (q0 := 19) (j := 3) rfl dX11_image_18 rfl ?_
      refine g_if_lt (q0 := 22) (tgt := 27) rfl dX11_image_19 (by decide) (fun h19 => ?_) (fun h19 => ?_)
      · replace h := wI_pos h19 h
        refine g_iconst (q0 := 28) rfl dX11_image_27 (k := ?_)
        exact g_ireturn dX11_image_28 rfl ⟨Nat.zero_le _, Nat.zero_le _⟩ h
      · replace h := wI_neg (Int.not_lt.mpr h19) h
        refine g_iload_n (q0 := 23) (j := 3) rfl dX11_image_22 rfl ?_
        refine g_iconst (q0 := 24) rfl dX11_image_23 (k := ?_)
        refine g_icmp_le (q0 := 27) (tgt := 29) rfl dX11_image_24 (by decide) (fun h24 => ?_) (fun h24 => ?_)
        · replace h := wI_neg (Int.not_lt.mpr h24) h
          refine g_aload_n (q0 := 30) (j := 0) rfl dX11_image_29 rfl ?_
          refine g_getp (q0 := 33) (b := 409) rfl ff_X11_43 dX11_image_30 rfl hOK (by decide) (sh_0 hOK) rfl (by decide) ?_
          refine g_iload_n (q0 := 34) (j := 1) rfl dX11_image_33 rfl ?_
          obtain ⟨g1, h⟩ := h
          refine g_aald (q0 := 35) (q := 2) rfl dX11_image_34 (sh_409 hOK) rfl g1.1 g1.2 ?_
          rw [(hOK.2.2.2 _ g1.1 g1.2).2.2.1]
          refine g_astore (q0 := 37) (j := 4) (lv2 := [_, _, _, _, _]) rfl dX11_image_35 (by decide) rfl rfl ?_
          refine g_aload (q0 := 39) (j := 4) rfl dX11_image_37 rfl ?_
          obtain ⟨g2, h⟩ := h
          refine g_getf (q0 := 42) (t := 0) (fi := 0) rfl rfl ff_X11_189 dX11_image_39 rfl g2.1 ?_
          refine g_if_ne (q0 := 45) (tgt := 48) rfl dX11_image_42 (by decide) (fun h42 => ?_) (fun h42 => ?_)
          · replace h := wI_neg h42 h
            refine g_aload (q0 := 50) (j := 4) rfl dX11_image_48 rfl ?_
            refine g_iload_n (q0 := 51) (j := 2) rfl dX11_image_50 rfl ?_
            obtain ⟨v51, e51, h⟩ := h
            refine g_callVp (as := [_]) (rest := []) mt_X5_isMapped mi_X5_isMapped se_X5_isMapped ml_X11_432 dX11_image_51 (q0 := 54) rfl rfl g2.1 rfl rfl e51 rfl ⟨by decide, by decide⟩ (Nat.le_of_ble_eq_true rfl) ⟨Nat.zero_le _, Nat.zero_le _⟩ (fun _ => ?_)
            refine g_if_ne (q0 := 57) (tgt := 60) rfl dX11_image_54 (by decide) (fun h54 => ?_) (fun h54 => ?_)
            · replace h := wI_neg h54 h
              refine g_iload_n (q0 := 61) (j := 3) rfl dX11_image_60 rfl ?_
              refine g_iconst (q0 := 62) rfl dX11_image_61 (k := ?_)
              refine g_icmp_ne (q0 := 65) (tgt := 73) rfl dX11_image_62 (by decide) (fun h62 => ?_) (fun h62 => ?_)
              · replace h := wI_neg h62 h
                refine g_aload (q0 := 75) (j := 4) rfl dX11_image_73 rfl ?_
                refine g_getp (q0 := 78) (b := ((519 + 48 * a1) + 22)) rfl ff_X11_436 dX11_image_75 rfl hOK g2.2 g2.1 rfl rfl ?_
                refine g_iload_n (q0 := 79) (j := 2) rfl dX11_image_78 rfl ?_
                obtain ⟨n3, sn3, h⟩ := h
                obtain ⟨g4, h⟩ := h
                refine g_iald (q0 := 80) rfl dX11_image_79 sn3 g4.1 g4.2 ?_
                refine g_if_ge (q0 := 83) (tgt := 88) rfl dX11_image_80 (by decide) (fun h80 => ?_) (fun h80 => ?_)
                · replace h := wI_neg (Int.not_lt.mpr h80) h
                  refine g_aload (q0 := 90) (j := 4) rfl dX11_image_88 rfl ?_
                  refine g_getp (q0 := 93) (b := ((519 + 48 * a1) + 22)) rfl ff_X11_436 dX11_image_90 rfl hOK g2.2 g2.1 rfl rfl ?_
                  refine g_iload_n (q0 := 94) (j := 2) rfl dX11_image_93 rfl ?_
                  refine g_iald (q0 := 95) rfl dX11_image_94 sn3 g4.1 g4.2 ?_
                  exact g_ireturn dX11_image_95 rfl ⟨Nat.zero_le _, Nat.zero_le _⟩ h
                · replace h := wI_pos h80 h
                  refine g_bipush (q0 := 85) rfl dX11_image_83 (k := ?_)
                  refine g_goto (tgt := 95) dX11_image_85 (by decide) ?_
                  exact g_ireturn dX11_image_95 rfl ⟨Nat.zero_le _, Nat.zero_le _⟩ h
              · replace h := wI_pos h62 h
                refine g_aload (q0 := 67) (j := 4) rfl dX11_image_65 rfl ?_
                refine g_getp (q0 := 70) (b := ((519 + 48 * a1) + 23)) rfl ff_X11_435 dX11_image_67 rfl hOK g2.2 g2.1 rfl rfl ?_
                refine g_iload_n (q0 := 71) (j := 2) rfl dX11_image_70 rfl ?_
                obtain ⟨n5, sn5, h⟩ := h
                obtain ⟨g6, h⟩ := h
                refine g_iald (q0 := 72) rfl dX11_image_71 sn5 g6.1 g6.2 ?_
                exact g_ireturn dX11_image_72 rfl ⟨Nat.zero_le _, Nat.zero_le _⟩ h
            · replace h := wI_pos h54 h
              refine g_bipush (q0 := 59) rfl dX11_image_57 (k := ?_)
              exact g_ireturn dX11_image_59 rfl ⟨Nat.zero_le _, Nat.zero_le _⟩ h
          · replace h := wI_pos h42 h
            refine g_bipush (q0 := 47) rfl dX11_image_45 (k := ?_)
            exact g_ireturn dX11_image_47 rfl ⟨Nat.zero_le _, Nat.zero_le _⟩ h
        · replace h := wI_pos h24 h
          refine g_iconst (q0 := 28) rfl dX11_image_27 (k := ?_)
          exact g_ireturn dX11_image_28 rfl ⟨Nat.zero_le _, Nat.zero_le _⟩ h
-- ==== X11_tried
theorem dX11_tried_0 : decode cX11_tried 0 = .ok (.iload_n 1, 1) := by decide +kernel
theorem dX11_tried_1 : decode cX11_tried 1 = .ok (.invokestatic 132, 3) := by decide +kernel
theorem dX11_tried_4 : decode cX11_tried 4 = .ok (.ifCond .eq 23, 3) := by decide +kernel
theorem dX11_tried_7 : decode cX11_tried 7 = .ok (.aload_n 0, 1) := by decide +kernel
theorem dX11_tried_8 : decode cX11_tried 8 = .ok (.getfield 27, 3) := by decide +kernel
theorem dX11_tried_11 : decode cX11_tried 11 = .ok (.iload_n 2, 1) := by decide +kernel
theorem dX11_tried_12 : decode cX11_tried 12 = .ok (.invokevirtual 152, 3) := by decide +kernel
theorem dX11_tried_15 : decode cX11_tried 15 = .ok (.ifCond .eq 12, 3) := by decide +kernel
theorem dX11_tried_18 : decode cX11_tried 18 = .ok (.iload_n 3, 1) := by decide +kernel
theorem dX11_tried_19 : decode cX11_tried 19 = .ok (.ifCond .lt 8, 3) := by decide +kernel
theorem dX11_tried_22 : decode cX11_tried 22 = .ok (.iload_n 3, 1) := by decide +kernel
theorem dX11_tried_23 : decode cX11_tried 23 = .ok (.iconst 3, 1) := by decide +kernel
theorem dX11_tried_24 : decode cX11_tried 24 = .ok (.if_icmp .le 5, 3) := by decide +kernel
theorem dX11_tried_27 : decode cX11_tried 27 = .ok (.iconst (-1), 1) := by decide +kernel
theorem dX11_tried_28 : decode cX11_tried 28 = .ok (.ireturn, 1) := by decide +kernel
theorem dX11_tried_29 : decode cX11_tried 29 = .ok (.aload_n 0, 1) := by decide +kernel
theorem dX11_tried_30 : decode cX11_tried 30 = .ok (.getfield 43, 3) := by decide +kernel
theorem dX11_tried_33 : decode cX11_tried 33 = .ok (.iload_n 1, 1) := by decide +kernel
theorem dX11_tried_34 : decode cX11_tried 34 = .ok (.aaload, 1) := by decide +kernel
theorem dX11_tried_35 : decode cX11_tried 35 = .ok (.getfield 189, 3) := by decide +kernel
theorem dX11_tried_38 : decode cX11_tried 38 = .ok (.ifCond .ne 6, 3) := by decide +kernel
theorem dX11_tried_41 : decode cX11_tried 41 = .ok (.bipush (-3), 2) := by decide +kernel
theorem dX11_tried_43 : decode cX11_tried 43 = .ok (.ireturn, 1) := by decide +kernel
theorem dX11_tried_44 : decode cX11_tried 44 = .ok (.aload_n 0, 1) := by decide +kernel
theorem dX11_tried_45 : decode cX11_tried 45 = .ok (.getfield 19, 3) := by decide +kernel
theorem dX11_tried_48 : decode cX11_tried 48 = .ok (.aload_n 0, 1) := by decide +kernel
theorem dX11_tried_49 : decode cX11_tried 49 = .ok (.getfield 43, 3) := by decide +kernel
theorem dX11_tried_52 : decode cX11_tried 52 = .ok (.iload_n 1, 1) := by decide +kernel
theorem dX11_tried_53 : decode cX11_tried 53 = .ok (.aaload, 1) := by decide +kernel
theorem dX11_tried_54 : decode cX11_tried 54 = .ok (.aload_n 0, 1) := by decide +kernel
theorem dX11_tried_55 : decode cX11_tried 55 = .ok (.getfield 27, 3) := by decide +kernel
theorem dX11_tried_58 : decode cX11_tried 58 = .ok (.iload_n 2, 1) := by decide +kernel
theorem dX11_tried_59 : decode cX11_tried 59 = .ok (.invokevirtual 155, 3) := by decide +kernel
theorem dX11_tried_62 : decode cX11_tried 62 = .ok (.invokevirtual 437, 3) := by decide +kernel
theorem dX11_tried_65 : decode cX11_tried 65 = .ok (.iload_n 3, 1) := by decide +kernel
theorem dX11_tried_66 : decode cX11_tried 66 = .ok (.tableswitch 53 0 2 #[26, 37, 45], 26) := by decide +kernel
theorem dX11_tried_92 : decode cX11_tried 92 = .ok (.aload_n 0, 1) := by decide +kernel
theorem dX11_tried_93 : decode cX11_tried 93 = .ok (.getfield 19, 3) := by decide +kernel
theorem dX11_tried_96 : decode cX11_tried 96 = .ok (.invokevirtual 441, 3) := by decide +kernel
theorem dX11_tried_99 : decode cX11_tried 99 = .ok (.getfield 159, 3) := by decide +kernel
theorem dX11_tried_102 : decode cX11_tried 102 = .ok (.ireturn, 1) := by decide +kernel
theorem dX11_tried_103 : decode cX11_tried 103 = .ok (.aload_n 0, 1) := by decide +kernel
theorem dX11_tried_104 : decode cX11_tried 104 = .ok (.getfield 19, 3) := by decide +kernel
theorem dX11_tried_107 : decode cX11_tried 107 = .ok (.getfield 444, 3) := by decide +kernel
theorem dX11_tried_110 : decode cX11_tried 110 = .ok (.ireturn, 1) := by decide +kernel
theorem dX11_tried_111 : decode cX11_tried 111 = .ok (.aload_n 0, 1) := by decide +kernel
theorem dX11_tried_112 : decode cX11_tried 112 = .ok (.getfield 19, 3) := by decide +kernel
theorem dX11_tried_115 : decode cX11_tried 115 = .ok (.getfield 447, 3) := by decide +kernel
theorem dX11_tried_118 : decode cX11_tried 118 = .ok (.ireturn, 1) := by decide +kernel
theorem dX11_tried_119 : decode cX11_tried 119 = .ok (.aload_n 0, 1) := by decide +kernel
theorem dX11_tried_120 : decode cX11_tried 120 = .ok (.getfield 27, 3) := by decide +kernel
theorem dX11_tried_123 : decode cX11_tried 123 = .ok (.aload_n 0, 1) := by decide +kernel
theorem dX11_tried_124 : decode cX11_tried 124 = .ok (.getfield 19, 3) := by decide +kernel
theorem dX11_tried_127 : decode cX11_tried 127 = .ok (.invokevirtual 441, 3) := by decide +kernel
theorem dX11_tried_130 : decode cX11_tried 130 = .ok (.invokevirtual 450, 3) := by decide +kernel
theorem dX11_tried_133 : decode cX11_tried 133 = .ok (.istore 4, 2) := by decide +kernel
theorem dX11_tried_135 : decode cX11_tried 135 = .ok (.iload 4, 2) := by decide +kernel
theorem dX11_tried_137 : decode cX11_tried 137 = .ok (.ifCond .ge 8, 3) := by decide +kernel
theorem dX11_tried_140 : decode cX11_tried 140 = .ok (.bipush (-2), 2) := by decide +kernel
theorem dX11_tried_142 : decode cX11_tried 142 = .ok (.goto 5, 3) := by decide +kernel
theorem dX11_tried_145 : decode cX11_tried 145 = .ok (.iload 4, 2) := by decide +kernel
theorem dX11_tried_147 : decode cX11_tried 147 = .ok (.ireturn, 1) := by decide +kernel
theorem w_X11_tried {sh : gS} {Q : Option gV → gS → gM → Prop} {a1 a2 a3 : Int} {M : gM} (hOK : gOK sh M) (h : (∃ v1 : Int, gC (gr 0 0) yX11_isPlan cX11_isPlan 1 (some (.boolean)) [(0, a1)] sh M (gPp sh M (0, v1)) ∧
    (if v1 = 0 then
      (Q (some (0, -1)) sh M)
    else
      (∃ v12 : Int, gC (gr 0 0) yX1_has cX1_has 2 (some (.boolean)) [(4, 4), (0, a2)] sh M (gPp sh M (0, v12)) ∧
        (if v12 = 0 then
          (Q (some (0, -1)) sh M)
        else
          (if a3 < 0 then
            (Q (some (0, -1)) sh M)
          else
            (if (3 : Int) < a3 then
              (Q (some (0, -1)) sh M)
            else
              ((0 ≤ a1 ∧ a1 < 4) ∧
                ((gsh sh (519 + 48 * a1) = some (0, 6) ∧ (519 + 48 * a1) < 758) ∧
                  (if (M (519 + 48 * a1) 0) = 0 then
                    (Q (some (0, -3)) sh M)
                  else
                    (∃ v59 : Int, gC (gr 0 0) yX1_tree cX1_tree 2 (some (.object "CarriedHistory$Tree")) [(4, 4), (0, a2)] sh M (gPp sh M (4, v59)) ∧
                      (∃ P62 : Option gV → gM → Prop, gC (gr 3 73) yX8_carryTree cX8_carryTree 8 none [(4, 3), (4, (519 + 48 * a1)), (4, v59)] sh M (gPm sh P62) ∧ ∀ (r62 : Option gV) (M62 : gM), P62 r62 M62 → r62 = none ∧ gOK sh M62 ∧
                        (if a3 = 0 then
                          (∃ v96 : Int, gC (gr 0 0) yX8_tree cX8_tree 1 (some (.object "CarriedHistory$Tree")) [(4, 3)] sh M62 (gPp sh M62 (4, v96)) ∧
                            ((gsh sh v96 = some (0, 11) ∧ v96 < 758) ∧
                              (Q (some (0, (M62 v96 2))) sh M62)))
                        else
                          (if a3 = 1 then
                            (Q (some (0, (M62 3 6))) sh M62)
                          else
                            (if a3 = 2 then
                              (Q (some (0, (M62 3 7))) sh M62)
                            else
                              (∃ v127 : Int, gC (gr 0 0) yX8_tree cX8_tree 1 (some (.object "CarriedHistory$Tree")) [(4, 3)] sh M62 (gPp sh M62 (4, v127)) ∧
                                (∃ v130 : Int, gC (gr 1 22) yX1_lowestWith cX1_lowestWith 3 (some (.int)) [(4, 4), (4, v127)] sh M62 (gPp sh M62 (0, v130)) ∧
                                  (if v130 < 0 then
                                    (Q (some (0, -2)) sh M62)
                                  else
                                    (Q (some (0, v130)) sh M62))))))))))))))))))) : gC (gr 4 100) yX11_tried cX11_tried 5 (some (.int)) [(4, 0), (0, a1), (0, a2), (0, a3)] sh M Q := by
  refine gC_ofA (lv := [_, _, _, _, _]) (by decide +kernel) (Nat.le_of_ble_eq_true rfl) rfl (fun hMw hav => ?_)
  refine g_iload_n (q0 := 1) (j := 1) rfl dX11_tried_0 rfl ?_
  obtain ⟨v1, e1, h⟩ := h
  refine g_callSp (as := [_]) (rest := []) mt_X11_isPlan ms_X11_isPlan ml_X11_132 dX11_tried_1 (q0 := 4) rfl rfl e1 rfl ⟨by decide, by decide⟩ (Nat.le_of_ble_eq_true rfl) ⟨Nat.zero_le _, Nat.zero_le _⟩ (fun _ => ?_)
  refine g_if_eq (q0 := 7) (tgt := 27) rfl dX11_tried_4 (by decide) (fun h4 => ?_) (fun h4 => ?_)
  · replace h := wI_pos h4 h
    refine g_iconst (q0 := 28) rfl dX11_tried_27 (k := ?_)
    exact g_ireturn dX11_tried_28 rfl ⟨Nat.zero_le _, Nat.zero_le _⟩ h
  · replace h := wI_neg h4 h
    refine g_aload_n (q0 := 8) (j := 0) rfl dX11_tried_7 rfl ?_
    refine g_getp (q0 := 11) (b := 4) rfl ff_X11_27 dX11_tried_8 rfl hOK (by decide) (sh_0 hOK) rfl (by decide) ?_
    refine g_iload_n (q0 := 12) (j := 2) rfl dX11_tried_11 rfl ?_
    obtain ⟨v12, e12, h⟩ := h
    refine g_callVp (as := [_]) (rest := []) mt_X1_has mi_X1_has se_X1_has ml_X11_152 dX11_tried_12 (q0 := 15) rfl rfl (sh_4 hOK) rfl rfl e12 rfl ⟨by decide, by decide⟩ (Nat.le_of_ble_eq_true rfl) ⟨Nat.zero_le _, Nat.zero_le _⟩ (fun _ => ?_)
    refine g_if_eq (q0 := 18) (tgt := 27) rfl dX11_tried_15 (by decide) (fun h15 => ?_) (fun h15 => ?_)
    · replace h := wI_pos h15 h
      refine g_iconst (q0 := 28) rfl dX11_tried_27 (k := ?_)
      exact g_ireturn dX11_tried_28 rfl ⟨Nat.zero_le _, Nat.zero_le _⟩ h
    · replace h := wI_neg h15 h
      refine g_iload_n (q0 := 19) (j := 3) rfl dX11_tried_18 rfl ?_
      refine g_if_lt (q0 := 22) (tgt := 27) rfl dX11_tried_19 (by decide) (fun h19 => ?_) (fun h19 => ?_)
      · replace h := wI_pos h19 h
        refine g_iconst (q0 := 28) rfl dX11_tried_27 (k := ?_)
        exact g_ireturn dX11_tried_28 rfl ⟨Nat.zero_le _, Nat.zero_le _⟩ h
      · replace h := wI_neg (Int.not_lt.mpr h19) h
        refine g_iload_n (q0 := 23) (j := 3) rfl dX11_tried_22 rfl ?_
        refine g_iconst (q0 := 24) rfl dX11_tried_23 (k := ?_)
        refine g_icmp_le (q0 := 27) (tgt := 29) rfl dX11_tried_24 (by decide) (fun h24 => ?_) (fun h24 => ?_)
        · replace h := wI_neg (Int.not_lt.mpr h24) h
          refine g_aload_n (q0 := 30) (j := 0) rfl dX11_tried_29 rfl ?_
          refine g_getp (q0 := 33) (b := 409) rfl ff_X11_43 dX11_tried_30 rfl hOK (by decide) (sh_0 hOK) rfl (by decide) ?_
          refine g_iload_n (q0 := 34) (j := 1) rfl dX11_tried_33 rfl ?_
          obtain ⟨g1, h⟩ := h
          refine g_aald (q0 := 35) (q := 2) rfl dX11_tried_34 (sh_409 hOK) rfl g1.1 g1.2 ?_
          rw [(hOK.2.2.2 _ g1.1 g1.2).2.2.1]
          obtain ⟨g2, h⟩ := h
          refine g_getf (q0 := 38) (t := 0) (fi := 0) rfl rfl ff_X11_189 dX11_tried_35 rfl g2.1 ?_
          refine g_if_ne (q0 := 41) (tgt := 44) rfl dX11_tried_38 (by decide) (fun h38 => ?_) (fun h38 => ?_)
          · replace h := wI_neg h38 h
            refine g_aload_n (q0 := 45) (j := 0) rfl dX11_tried_44 rfl ?_
            refine g_getp (q0 := 48) (b := 3) rfl ff_X11_19 dX11_tried_45 rfl hOK (by decide) (sh_0 hOK) rfl (by decide) ?_
            refine g_aload_n (q0 := 49) (j := 0) rfl dX11_tried_48 rfl ?_
            refine g_getp (q0 := 52) (b := 409) rfl ff_X11_43 dX11_tried_49 rfl hOK (by decide) (sh_0 hOK) rfl (by decide) ?_
            refine g_iload_n (q0 := 53) (j := 1) rfl dX11_tried_52 rfl ?_
            refine g_aald (q0 := 54) (q := 2) rfl dX11_tried_53 (sh_409 hOK) rfl g1.1 g1.2 ?_
            rw [(hOK.2.2.2 _ g1.1 g1.2).2.2.1]
            refine g_aload_n (q0 := 55) (j := 0) rfl dX11_tried_54 rfl ?_
            refine g_getp (q0 := 58) (b := 4) rfl ff_X11_27 dX11_tried_55 rfl hOK (by decide) (sh_0 hOK) rfl (by decide) ?_
            refine g_iload_n (q0 := 59) (j := 2) rfl dX11_tried_58 rfl ?_
            obtain ⟨v59, e59, h⟩ := h
            refine g_callVp (as := [_]) (rest := [_, _]) mt_X1_tree mi_X1_tree se_X1_tree ml_X11_155 dX11_tried_59 (q0 := 62) rfl rfl (sh_4 hOK) rfl rfl e59 rfl ⟨by decide, by decide⟩ (Nat.le_of_ble_eq_true rfl) ⟨Nat.zero_le _, Nat.zero_le _⟩ (fun _ => ?_)
            obtain ⟨P62, e62, h⟩ := h
            refine g_callVm (as := [_, _]) (rest := []) mt_X8_carryTree mi_X8_carryTree se_X8_carryTree ml_X11_437 dX11_tried_62 (q0 := 65) rfl rfl (sh_3 hOK) rfl rfl e62 rfl ⟨by decide, by decide⟩ (Nat.le_of_ble_eq_true rfl) ⟨Nat.zero_le _, Nat.zero_le _⟩ (fun r62 M62 hP62 hw62 hMw62 => ?_)
            obtain ⟨hr62, hOK3, h⟩ := h r62 M62 hP62
            subst hr62
            refine g_iload_n (q0 := 66) (j := 3) rfl dX11_tried_65 rfl ?_
            by_cases hs0 : a3 = 0
            · replace h := wI_pos hs0 h
              refine g_tabIn (off := 26) (tgt := 92) dX11_tried_66 (by omega) (by omega) (by rw [hs0]; rfl) (by decide) ?_
              refine g_aload_n (q0 := 93) (j := 0) rfl dX11_tried_92 rfl ?_
              refine g_getp (q0 := 96) (b := 3) rfl ff_X11_19 dX11_tried_93 rfl hOK3 (by decide) (sh_0 hOK3) rfl (by decide) ?_
              obtain ⟨v96, e96, h⟩ := h
              refine g_callVp (as := []) (rest := []) mt_X8_tree mi_X8_tree se_X8_tree ml_X11_441 dX11_tried_96 (q0 := 99) rfl rfl (sh_3 hOK3) rfl rfl e96 rfl ⟨by decide, by decide⟩ (Nat.le_of_ble_eq_true rfl) ⟨Nat.zero_le _, Nat.zero_le _⟩ (fun _ => ?_)
              obtain ⟨g4, h⟩ := h
              refine g_getf (q0 := 102) (t := 0) (fi := 2) rfl rfl ff_X11_159 dX11_tried_99 rfl g4.1 ?_
              exact g_ireturn dX11_tried_102 rfl ⟨Nat.zero_le _, Nat.zero_le _⟩ h
            · replace h := wI_neg hs0 h
              by_cases hs1 : a3 = 1
              · replace h := wI_pos hs1 h
                refine g_tabIn (off := 37) (tgt := 103) dX11_tried_66 (by omega) (by omega) (by rw [hs1]; rfl) (by decide) ?_
                refine g_aload_n (q0 := 104) (j := 0) rfl dX11_tried_103 rfl ?_
                refine g_getp (q0 := 107) (b := 3) rfl ff_X11_19 dX11_tried_104 rfl hOK3 (by decide) (sh_0 hOK3) rfl (by decide) ?_
                refine g_getf (q0 := 110) (t := 0) (fi := 6) rfl rfl ff_X11_444 dX11_tried_107 rfl (sh_3 hOK3) ?_
                exact g_ireturn dX11_tried_110 rfl ⟨Nat.zero_le _, Nat.zero_le _⟩ h
              · replace h := wI_neg hs1 h
                by_cases hs2 : a3 = 2
                · replace h := wI_pos hs2 h
                  refine g_tabIn (off := 45) (tgt := 111) dX11_tried_66 (by omega) (by omega) (by rw [hs2]; rfl) (by decide) ?_
                  refine g_aload_n (q0 := 112) (j := 0) rfl dX11_tried_111 rfl ?_
                  refine g_getp (q0 := 115) (b := 3) rfl ff_X11_19 dX11_tried_112 rfl hOK3 (by decide) (sh_0 hOK3) rfl (by decide) ?_
                  refine g_getf (q0 := 118) (t := 0) (fi := 7) rfl rfl ff_X11_447 dX11_tried_115 rfl (sh_3 hOK3) ?_
                  exact g_ireturn dX11_tried_118 rfl ⟨Nat.zero_le _, Nat.zero_le _⟩ h
                · replace h := wI_neg hs2 h
                  refine g_tabOut (tgt := 119) dX11_tried_66 (by omega) (by decide) ?_
                  refine g_aload_n (q0 := 120) (j := 0) rfl dX11_tried_119 rfl ?_
                  refine g_getp (q0 := 123) (b := 4) rfl ff_X11_27 dX11_tried_120 rfl hOK3 (by decide) (sh_0 hOK3) rfl (by decide) ?_
                  refine g_aload_n (q0 := 124) (j := 0) rfl dX11_tried_123 rfl ?_
                  refine g_getp (q0 := 127) (b := 3) rfl ff_X11_19 dX11_tried_124 rfl hOK3 (by decide) (sh_0 hOK3) rfl (by decide) ?_
                  obtain ⟨v127, e127, h⟩ := h
                  refine g_callVp (as := []) (rest := [_]) mt_X8_tree mi_X8_tree se_X8_tree ml_X11_441 dX11_tried_127 (q0 := 130) rfl rfl (sh_3 hOK3) rfl rfl e127 rfl ⟨by decide, by decide⟩ (Nat.le_of_ble_eq_true rfl) ⟨Nat.zero_le _, Nat.zero_le _⟩ (fun _ => ?_)
                  obtain ⟨v130, e130, h⟩ := h
                  refine g_callVp (as := [_]) (rest := []) mt_X1_lowestWith mi_X1_lowestWith se_X1_lowestWith ml_X11_450 dX11_tried_130 (q0 := 133) rfl rfl (sh_4 hOK3) rfl rfl e130 rfl ⟨by decide, by decide⟩ (Nat.le_of_ble_eq_true rfl) ⟨Nat.zero_le _, Nat.zero_le _⟩ (fun _ => ?_)
                  refine g_istore (q0 := 135) (j := 4) (lv2 := [_, _, _, _, _]) rfl dX11_tried_133 (by decide) rfl rfl ?_
                  refine g_iload (q0 := 137) (j := 4) rfl dX11_tried_135 rfl ?_
                  refine g_if_ge (q0 := 140) (tgt := 145) rfl dX11_tried_137 (by decide) (fun h137 => ?_) (fun h137 => ?_)
                  · replace h := wI_neg (Int.not_lt.mpr h137) h
                    refine g_iload (q0 := 147) (j := 4) rfl dX11_tried_145 rfl ?_
                    exact g_ireturn dX11_tried_147 rfl ⟨Nat.zero_le _, Nat.zero_le _⟩ h
                  · replace h := wI_pos h137 h
                    refine g_bipush (q0 := 142) rfl dX11_tried_140 (k := ?_)
                    refine g_goto (tgt := 147) dX11_tried_142 (by decide) ?_
                    exact g_ireturn dX11_tried_147 rfl ⟨Nat.zero_le _, Nat.zero_le _⟩ h
          · replace h := wI_pos h38 h
            refine g_bipush (q0 := 43) rfl dX11_tried_41 (k := ?_)
            exact g_ireturn dX11_tried_43 rfl ⟨Nat.zero_le _, Nat.zero_le _⟩ h
        · replace h := wI_pos h24 h
          refine g_iconst (q0 := 28) rfl dX11_tried_27 (k := ?_)
          exact g_ireturn dX11_tried_28 rfl ⟨Nat.zero_le _, Nat.zero_le _⟩ h
-- ==== X11_share
theorem dX11_share_0 : decode cX11_share 0 = .ok (.iload_n 1, 1) := by decide +kernel
theorem dX11_share_1 : decode cX11_share 1 = .ok (.invokestatic 132, 3) := by decide +kernel
theorem dX11_share_4 : decode cX11_share 4 = .ok (.ifCond .ne 7, 3) := by decide +kernel
theorem dX11_share_7 : decode cX11_share 7 = .ok (.ldc2_w 454, 3) := by decide +kernel
theorem dX11_share_10 : decode cX11_share 10 = .ok (.lreturn, 1) := by decide +kernel
theorem dX11_share_11 : decode cX11_share 11 = .ok (.aload_n 0, 1) := by decide +kernel
theorem dX11_share_12 : decode cX11_share 12 = .ok (.getfield 43, 3) := by decide +kernel
theorem dX11_share_15 : decode cX11_share 15 = .ok (.iload_n 1, 1) := by decide +kernel
theorem dX11_share_16 : decode cX11_share 16 = .ok (.aaload, 1) := by decide +kernel
theorem dX11_share_17 : decode cX11_share 17 = .ok (.getfield 189, 3) := by decide +kernel
theorem dX11_share_20 : decode cX11_share 20 = .ok (.ifCond .ne 7, 3) := by decide +kernel
theorem dX11_share_23 : decode cX11_share 23 = .ok (.ldc2_w 456, 3) := by decide +kernel
theorem dX11_share_26 : decode cX11_share 26 = .ok (.lreturn, 1) := by decide +kernel
theorem dX11_share_27 : decode cX11_share 27 = .ok (.aload_n 0, 1) := by decide +kernel
theorem dX11_share_28 : decode cX11_share 28 = .ok (.aload_n 0, 1) := by decide +kernel
theorem dX11_share_29 : decode cX11_share 29 = .ok (.getfield 43, 3) := by decide +kernel
theorem dX11_share_32 : decode cX11_share 32 = .ok (.iload_n 1, 1) := by decide +kernel
theorem dX11_share_33 : decode cX11_share 33 = .ok (.aaload, 1) := by decide +kernel
theorem dX11_share_34 : decode cX11_share 34 = .ok (.bipush 8, 2) := by decide +kernel
theorem dX11_share_36 : decode cX11_share 36 = .ok (.invokevirtual 428, 3) := by decide +kernel
theorem dX11_share_39 : decode cX11_share 39 = .ok (.istore_n 2, 1) := by decide +kernel
theorem dX11_share_40 : decode cX11_share 40 = .ok (.iload_n 2, 1) := by decide +kernel
theorem dX11_share_41 : decode cX11_share 41 = .ok (.ifCond .ne 7, 3) := by decide +kernel
theorem dX11_share_44 : decode cX11_share 44 = .ok (.lconst 0, 1) := by decide +kernel
theorem dX11_share_45 : decode cX11_share 45 = .ok (.goto 22, 3) := by decide +kernel
theorem dX11_share_48 : decode cX11_share 48 = .ok (.aload_n 0, 1) := by decide +kernel
theorem dX11_share_49 : decode cX11_share 49 = .ok (.aload_n 0, 1) := by decide +kernel
theorem dX11_share_50 : decode cX11_share 50 = .ok (.getfield 43, 3) := by decide +kernel
theorem dX11_share_53 : decode cX11_share 53 = .ok (.iload_n 1, 1) := by decide +kernel
theorem dX11_share_54 : decode cX11_share 54 = .ok (.aaload, 1) := by decide +kernel
theorem dX11_share_55 : decode cX11_share 55 = .ok (.bipush 9, 2) := by decide +kernel
theorem dX11_share_57 : decode cX11_share 57 = .ok (.invokevirtual 428, 3) := by decide +kernel
theorem dX11_share_60 : decode cX11_share 60 = .ok (.i2d, 1) := by decide +kernel
theorem dX11_share_61 : decode cX11_share 61 = .ok (.iload_n 2, 1) := by decide +kernel
theorem dX11_share_62 : decode cX11_share 62 = .ok (.i2d, 1) := by decide +kernel
theorem dX11_share_63 : decode cX11_share 63 = .ok (.ddiv, 1) := by decide +kernel
theorem dX11_share_64 : decode cX11_share 64 = .ok (.invokestatic 458, 3) := by decide +kernel
theorem dX11_share_67 : decode cX11_share 67 = .ok (.lreturn, 1) := by decide +kernel
theorem w_X11_share {sh : gS} {Q : Option gV → gS → gM → Prop} {a1 : Int} {M : gM} (hOK : gOK sh M) (h : (∃ v1 : Int, gC (gr 0 0) yX11_isPlan cX11_isPlan 1 (some (.boolean)) [(0, a1)] sh M (gPp sh M (0, v1)) ∧
    (if v1 = 0 then
      (Q (some (1, -1)) sh M)
    else
      ((0 ≤ a1 ∧ a1 < 4) ∧
        ((gsh sh (519 + 48 * a1) = some (0, 6) ∧ (519 + 48 * a1) < 758) ∧
          (if (M (519 + 48 * a1) 0) = 0 then
            (Q (some (1, -3)) sh M)
          else
            (∃ v36 : Int, gC (gr 1 21) yX11_mapIs cX11_mapIs 7 (some (.int)) [(4, 0), (4, (519 + 48 * a1)), (0, 8)] sh M (gPp sh M (0, v36)) ∧
              (if v36 = 0 then
                (Q (some (1, 0)) sh M)
              else
                (∃ v57 : Int, gC (gr 1 21) yX11_mapIs cX11_mapIs 7 (some (.int)) [(4, 0), (4, (519 + 48 * a1)), (0, 9)] sh M (gPp sh M (0, v57)) ∧
                  ((vf_n64 (FP.ddiv (gU64 (gdb (FP.i2d (Int32.ofInt v57)))) (gU64 (gdb (FP.i2d (Int32.ofInt v36)))))) ∧
                    (∃ v64 : Int, gC (gr 0 0) yX11_doubleBits cX11_doubleBits 7 (some (.long)) [(3, (gdb (FP.ddiv (gU64 (gdb (FP.i2d (Int32.ofInt v57)))) (gU64 (gdb (FP.i2d (Int32.ofInt v36)))))))] sh M (gPp sh M (1, v64)) ∧
                      (Q (some (1, v64)) sh M)))))))))))) : gC (gr 2 47) yX11_share cX11_share 3 (some (.long)) [(4, 0), (0, a1)] sh M Q := by
  refine gC_ofA (lv := [_, _, _]) (by decide +kernel) (Nat.le_of_ble_eq_true rfl) rfl (fun hMw hav => ?_)
  refine g_iload_n (q0 := 1) (j := 1) rfl dX11_share_0 rfl ?_
  obtain ⟨v1, e1, h⟩ := h
  refine g_callSp (as := [_]) (rest := []) mt_X11_isPlan ms_X11_isPlan ml_X11_132 dX11_share_1 (q0 := 4) rfl rfl e1 rfl ⟨by decide, by decide⟩ (Nat.le_of_ble_eq_true rfl) ⟨Nat.zero_le _, Nat.zero_le _⟩ (fun _ => ?_)
  refine g_if_ne (q0 := 7) (tgt := 11) rfl dX11_share_4 (by decide) (fun h4 => ?_) (fun h4 => ?_)
  · replace h := wI_neg h4 h
    refine g_aload_n (q0 := 12) (j := 0) rfl dX11_share_11 rfl ?_
    refine g_getp (q0 := 15) (b := 409) rfl ff_X11_43 dX11_share_12 rfl hOK (by decide) (sh_0 hOK) rfl (by decide) ?_
    refine g_iload_n (q0 := 16) (j := 1) rfl dX11_share_15 rfl ?_
    obtain ⟨g1, h⟩ := h
    refine g_aald (q0 := 17) (q := 2) rfl dX11_share_16 (sh_409 hOK) rfl g1.1 g1.2 ?_
    rw [(hOK.2.2.2 _ g1.1 g1.2).2.2.1]
    obtain ⟨g2, h⟩ := h
    refine g_getf (q0 := 20) (t := 0) (fi := 0) rfl rfl ff_X11_189 dX11_share_17 rfl g2.1 ?_
    refine g_if_ne (q0 := 23) (tgt := 27) rfl dX11_share_20 (by decide) (fun h20 => ?_) (fun h20 => ?_)
    · replace h := wI_neg h20 h
      refine g_aload_n (q0 := 28) (j := 0) rfl dX11_share_27 rfl ?_
      refine g_aload_n (q0 := 29) (j := 0) rfl dX11_share_28 rfl ?_
      refine g_getp (q0 := 32) (b := 409) rfl ff_X11_43 dX11_share_29 rfl hOK (by decide) (sh_0 hOK) rfl (by decide) ?_
      refine g_iload_n (q0 := 33) (j := 1) rfl dX11_share_32 rfl ?_
      refine g_aald (q0 := 34) (q := 2) rfl dX11_share_33 (sh_409 hOK) rfl g1.1 g1.2 ?_
      rw [(hOK.2.2.2 _ g1.1 g1.2).2.2.1]
      refine g_bipush (q0 := 36) rfl dX11_share_34 (k := ?_)
      obtain ⟨v36, e36, h⟩ := h
      refine g_callVp (as := [_, _]) (rest := []) mt_X11_mapIs mi_X11_mapIs se_X11_mapIs ml_X11_428 dX11_share_36 (q0 := 39) rfl rfl (sh_0 hOK) rfl rfl e36 rfl ⟨by decide, by decide⟩ (Nat.le_of_ble_eq_true rfl) ⟨Nat.zero_le _, Nat.zero_le _⟩ (fun _ => ?_)
      refine g_istore_n (q0 := 40) (j := 2) (lv2 := [_, _, _]) rfl dX11_share_39 (by decide) rfl rfl ?_
      refine g_iload_n (q0 := 41) (j := 2) rfl dX11_share_40 rfl ?_
      refine g_if_ne (q0 := 44) (tgt := 48) rfl dX11_share_41 (by decide) (fun h41 => ?_) (fun h41 => ?_)
      · replace h := wI_neg h41 h
        refine g_aload_n (q0 := 49) (j := 0) rfl dX11_share_48 rfl ?_
        refine g_aload_n (q0 := 50) (j := 0) rfl dX11_share_49 rfl ?_
        refine g_getp (q0 := 53) (b := 409) rfl ff_X11_43 dX11_share_50 rfl hOK (by decide) (sh_0 hOK) rfl (by decide) ?_
        refine g_iload_n (q0 := 54) (j := 1) rfl dX11_share_53 rfl ?_
        refine g_aald (q0 := 55) (q := 2) rfl dX11_share_54 (sh_409 hOK) rfl g1.1 g1.2 ?_
        rw [(hOK.2.2.2 _ g1.1 g1.2).2.2.1]
        refine g_bipush (q0 := 57) rfl dX11_share_55 (k := ?_)
        obtain ⟨v57, e57, h⟩ := h
        refine g_callVp (as := [_, _]) (rest := []) mt_X11_mapIs mi_X11_mapIs se_X11_mapIs ml_X11_428 dX11_share_57 (q0 := 60) rfl rfl (sh_0 hOK) rfl rfl e57 rfl ⟨by decide, by decide⟩ (Nat.le_of_ble_eq_true rfl) ⟨Nat.zero_le _, Nat.zero_le _⟩ (fun _ => ?_)
        refine g_i2d (q0 := 61) rfl dX11_share_60 ?_
        refine g_iload_n (q0 := 62) (j := 2) rfl dX11_share_61 rfl ?_
        refine g_i2d (q0 := 63) rfl dX11_share_62 ?_
        obtain ⟨g3, h⟩ := h
        refine g_ddiv (q0 := 64) rfl dX11_share_63 g3 ?_
        obtain ⟨v64, e64, h⟩ := h
        refine g_callSp (as := [_]) (rest := []) mt_X11_doubleBits ms_X11_doubleBits ml_X11_458 dX11_share_64 (q0 := 67) rfl rfl e64 rfl ⟨by decide, by decide⟩ (Nat.le_of_ble_eq_true rfl) ⟨Nat.zero_le _, Nat.zero_le _⟩ (fun _ => ?_)
        exact g_lreturn dX11_share_67 rfl ⟨Nat.zero_le _, Nat.zero_le _⟩ h
      · replace h := wI_pos h41 h
        refine g_lconst (q0 := 45) (z := 0) rfl dX11_share_44 (k := ?_)
        refine g_goto (tgt := 67) dX11_share_45 (by decide) ?_
        exact g_lreturn dX11_share_67 rfl ⟨Nat.zero_le _, Nat.zero_le _⟩ h
    · replace h := wI_pos h20 h
      refine g_ldc2 (q0 := 26) (n := -3) rfl co_X11_456 dX11_share_23 (k := ?_)
      exact g_lreturn dX11_share_26 rfl ⟨Nat.zero_le _, Nat.zero_le _⟩ h
  · replace h := wI_pos h4 h
    refine g_ldc2 (q0 := 10) (n := -1) rfl co_X11_454 dX11_share_7 (k := ?_)
    exact g_lreturn dX11_share_10 rfl ⟨Nat.zero_le _, Nat.zero_le _⟩ h
-- ==== X11_sound
theorem dX11_sound_0 : decode cX11_sound 0 = .ok (.iload_n 1, 1) := by decide +kernel
theorem dX11_sound_1 : decode cX11_sound 1 = .ok (.invokestatic 132, 3) := by decide +kernel
theorem dX11_sound_4 : decode cX11_sound 4 = .ok (.ifCond .eq 12, 3) := by decide +kernel
theorem dX11_sound_7 : decode cX11_sound 7 = .ok (.iload_n 2, 1) := by decide +kernel
theorem dX11_sound_8 : decode cX11_sound 8 = .ok (.ifCond .lt 8, 3) := by decide +kernel
theorem dX11_sound_11 : decode cX11_sound 11 = .ok (.iload_n 2, 1) := by decide +kernel
theorem dX11_sound_12 : decode cX11_sound 12 = .ok (.iconst 5, 1) := by decide +kernel
theorem dX11_sound_13 : decode cX11_sound 13 = .ok (.if_icmp .le 5, 3) := by decide +kernel
theorem dX11_sound_16 : decode cX11_sound 16 = .ok (.iconst (-1), 1) := by decide +kernel
theorem dX11_sound_17 : decode cX11_sound 17 = .ok (.ireturn, 1) := by decide +kernel
theorem dX11_sound_18 : decode cX11_sound 18 = .ok (.aload_n 0, 1) := by decide +kernel
theorem dX11_sound_19 : decode cX11_sound 19 = .ok (.getfield 43, 3) := by decide +kernel
theorem dX11_sound_22 : decode cX11_sound 22 = .ok (.iload_n 1, 1) := by decide +kernel
theorem dX11_sound_23 : decode cX11_sound 23 = .ok (.aaload, 1) := by decide +kernel
theorem dX11_sound_24 : decode cX11_sound 24 = .ok (.astore_n 3, 1) := by decide +kernel
theorem dX11_sound_25 : decode cX11_sound 25 = .ok (.aload_n 3, 1) := by decide +kernel
theorem dX11_sound_26 : decode cX11_sound 26 = .ok (.getfield 189, 3) := by decide +kernel
theorem dX11_sound_29 : decode cX11_sound 29 = .ok (.ifCond .ne 6, 3) := by decide +kernel
theorem dX11_sound_32 : decode cX11_sound 32 = .ok (.bipush (-3), 2) := by decide +kernel
theorem dX11_sound_34 : decode cX11_sound 34 = .ok (.ireturn, 1) := by decide +kernel
theorem dX11_sound_35 : decode cX11_sound 35 = .ok (.aload_n 0, 1) := by decide +kernel
theorem dX11_sound_36 : decode cX11_sound 36 = .ok (.getfield 19, 3) := by decide +kernel
theorem dX11_sound_39 : decode cX11_sound 39 = .ok (.aload_n 3, 1) := by decide +kernel
theorem dX11_sound_40 : decode cX11_sound 40 = .ok (.aload_n 0, 1) := by decide +kernel
theorem dX11_sound_41 : decode cX11_sound 41 = .ok (.getfield 37, 3) := by decide +kernel
theorem dX11_sound_44 : decode cX11_sound 44 = .ok (.aload_n 3, 1) := by decide +kernel
theorem dX11_sound_45 : decode cX11_sound 45 = .ok (.getfield 193, 3) := by decide +kernel
theorem dX11_sound_48 : decode cX11_sound 48 = .ok (.aaload, 1) := by decide +kernel
theorem dX11_sound_49 : decode cX11_sound 49 = .ok (.invokevirtual 462, 3) := by decide +kernel
theorem dX11_sound_52 : decode cX11_sound 52 = .ok (.iconst 0, 1) := by decide +kernel
theorem dX11_sound_53 : decode cX11_sound 53 = .ok (.istore 4, 2) := by decide +kernel
theorem dX11_sound_55 : decode cX11_sound 55 = .ok (.iconst 0, 1) := by decide +kernel
theorem dX11_sound_56 : decode cX11_sound 56 = .ok (.istore 5, 2) := by decide +kernel
theorem dX11_sound_58 : decode cX11_sound 58 = .ok (.iload 5, 2) := by decide +kernel
theorem dX11_sound_60 : decode cX11_sound 60 = .ok (.aload_n 0, 1) := by decide +kernel
theorem dX11_sound_61 : decode cX11_sound 61 = .ok (.getfield 27, 3) := by decide +kernel
theorem dX11_sound_64 : decode cX11_sound 64 = .ok (.getfield 135, 3) := by decide +kernel
theorem dX11_sound_67 : decode cX11_sound 67 = .ok (.if_icmp .ge 73, 3) := by decide +kernel
theorem dX11_sound_70 : decode cX11_sound 70 = .ok (.aload_n 0, 1) := by decide +kernel
theorem dX11_sound_71 : decode cX11_sound 71 = .ok (.getfield 19, 3) := by decide +kernel
theorem dX11_sound_74 : decode cX11_sound 74 = .ok (.iload 5, 2) := by decide +kernel
theorem dX11_sound_76 : decode cX11_sound 76 = .ok (.invokevirtual 200, 3) := by decide +kernel
theorem dX11_sound_79 : decode cX11_sound 79 = .ok (.ifCond .ne 6, 3) := by decide +kernel
theorem dX11_sound_82 : decode cX11_sound 82 = .ok (.goto 52, 3) := by decide +kernel
theorem dX11_sound_85 : decode cX11_sound 85 = .ok (.iload_n 2, 1) := by decide +kernel
theorem dX11_sound_86 : decode cX11_sound 86 = .ok (.iconst 5, 1) := by decide +kernel
theorem dX11_sound_87 : decode cX11_sound 87 = .ok (.if_icmp .ne 25, 3) := by decide +kernel
theorem dX11_sound_90 : decode cX11_sound 90 = .ok (.iload 4, 2) := by decide +kernel
theorem dX11_sound_92 : decode cX11_sound 92 = .ok (.aload_n 3, 1) := by decide +kernel
theorem dX11_sound_93 : decode cX11_sound 93 = .ok (.iload 5, 2) := by decide +kernel
theorem dX11_sound_95 : decode cX11_sound 95 = .ok (.invokevirtual 432, 3) := by decide +kernel
theorem dX11_sound_98 : decode cX11_sound 98 = .ok (.ifCond .eq 7, 3) := by decide +kernel
theorem dX11_sound_101 : decode cX11_sound 101 = .ok (.iconst 0, 1) := by decide +kernel
theorem dX11_sound_102 : decode cX11_sound 102 = .ok (.goto 4, 3) := by decide +kernel
theorem dX11_sound_105 : decode cX11_sound 105 = .ok (.iconst 1, 1) := by decide +kernel
theorem dX11_sound_106 : decode cX11_sound 106 = .ok (.iadd, 1) := by decide +kernel
theorem dX11_sound_107 : decode cX11_sound 107 = .ok (.istore 4, 2) := by decide +kernel
theorem dX11_sound_109 : decode cX11_sound 109 = .ok (.goto 25, 3) := by decide +kernel
theorem dX11_sound_112 : decode cX11_sound 112 = .ok (.aload_n 3, 1) := by decide +kernel
theorem dX11_sound_113 : decode cX11_sound 113 = .ok (.iload 5, 2) := by decide +kernel
theorem dX11_sound_115 : decode cX11_sound 115 = .ok (.invokevirtual 466, 3) := by decide +kernel
theorem dX11_sound_118 : decode cX11_sound 118 = .ok (.ifCond .eq 16, 3) := by decide +kernel
theorem dX11_sound_121 : decode cX11_sound 121 = .ok (.iload 4, 2) := by decide +kernel
theorem dX11_sound_123 : decode cX11_sound 123 = .ok (.aload_n 0, 1) := by decide +kernel
theorem dX11_sound_124 : decode cX11_sound 124 = .ok (.aload_n 3, 1) := by decide +kernel
theorem dX11_sound_125 : decode cX11_sound 125 = .ok (.iload 5, 2) := by decide +kernel
theorem dX11_sound_127 : decode cX11_sound 127 = .ok (.iload_n 2, 1) := by decide +kernel
theorem dX11_sound_128 : decode cX11_sound 128 = .ok (.invokevirtual 469, 3) := by decide +kernel
theorem dX11_sound_131 : decode cX11_sound 131 = .ok (.iadd, 1) := by decide +kernel
theorem dX11_sound_132 : decode cX11_sound 132 = .ok (.istore 4, 2) := by decide +kernel
theorem dX11_sound_134 : decode cX11_sound 134 = .ok (.iinc 5 1, 3) := by decide +kernel
theorem dX11_sound_137 : decode cX11_sound 137 = .ok (.goto (-79), 3) := by decide +kernel
theorem dX11_sound_140 : decode cX11_sound 140 = .ok (.iload 4, 2) := by decide +kernel
theorem dX11_sound_142 : decode cX11_sound 142 = .ok (.ireturn, 1) := by decide +kernel
def P_X11_sound_58 (sh : gS) (Q : Option gV → gS → gM → Prop) (x1 x2 x3 x4 x5 : Int) (M : gM) : Prop := gA (gr 5 125) yX11_sound cX11_sound 6 (some (.int)) Q (0, 0) 58 [(4, 0), (0, x1), (0, x2), (4, x3), (0, x4), (0, x5)] [] sh M
theorem w_X11_sound_58 {sh : gS} {Q : Option gV → gS → gM → Prop} {x1 x2 x3 x4 x5 : Int} {M : gM} (hOK : gOK sh M) (h : (if x5 < (M 4 0) then
    (∃ v76 : Int, gC (gr 1 22) yX8_isOfPlan cX8_isOfPlan 2 (some (.boolean)) [(4, 3), (0, x5)] sh M (gPp sh M (0, v76)) ∧
      (if v76 = 0 then
        (P_X11_sound_58 sh Q x1 x2 x3 x4 (gw32 (x5 + 1)) M)
      else
        (if x2 = 5 then
          ((gsh sh x3 = some (0, 6) ∧ x3 < 758) ∧
            (∃ v95 : Int, gC (gr 0 0) yX5_isMapped cX5_isMapped 2 (some (.boolean)) [(4, x3), (0, x5)] sh M (gPp sh M (0, v95)) ∧
              (if v95 = 0 then
                (P_X11_sound_58 sh Q x1 x2 x3 (gw32 (x4 + (1 : Int))) (gw32 (x5 + 1)) M)
              else
                (P_X11_sound_58 sh Q x1 x2 x3 (gw32 (x4 + (0 : Int))) (gw32 (x5 + 1)) M))))
        else
          ((gsh sh x3 = some (0, 6) ∧ x3 < 758) ∧
            (∃ v115 : Int, gC (gr 0 0) yX5_isKept cX5_isKept 2 (some (.boolean)) [(4, x3), (0, x5)] sh M (gPp sh M (0, v115)) ∧
              (if v115 = 0 then
                (P_X11_sound_58 sh Q x1 x2 x3 x4 (gw32 (x5 + 1)) M)
              else
                (∃ P128 : Option gV → gM → Prop, gC (gr 4 100) yX11_flawsOf cX11_flawsOf 6 (some (.int)) [(4, 0), (4, x3), (0, x5), (0, x2)] sh M (gPm sh P128) ∧ ∀ (r128 : Option gV) (M128 : gM), P128 r128 M128 → ∃ v128 : Int, r128 = some (0, v128) ∧ gOK sh M128 ∧
                  (P_X11_sound_58 sh Q x1 x2 x3 (gw32 (x4 + v128)) (gw32 (x5 + 1)) M128))))))))
  else
    (Q (some (0, x4)) sh M))) : P_X11_sound_58 sh Q x1 x2 x3 x4 x5 M := by
  unfold P_X11_sound_58
  refine g_iload (q0 := 60) (j := 5) rfl dX11_sound_58 rfl ?_
  refine g_aload_n (q0 := 61) (j := 0) rfl dX11_sound_60 rfl ?_
  refine g_getp (q0 := 64) (b := 4) rfl ff_X11_27 dX11_sound_61 rfl hOK (by decide) (sh_0 hOK) rfl (by decide) ?_
  refine g_getf (q0 := 67) (t := 0) (fi := 0) rfl rfl ff_X11_135 dX11_sound_64 rfl (sh_4 hOK) ?_
  refine g_icmp_ge (q0 := 70) (tgt := 140) rfl dX11_sound_67 (by decide) (fun h67 => ?_) (fun h67 => ?_)
  · replace h := wI_neg (Int.not_lt.mpr h67) h
    refine g_iload (q0 := 142) (j := 4) rfl dX11_sound_140 rfl ?_
    exact g_ireturn dX11_sound_142 rfl ⟨Nat.zero_le _, Nat.zero_le _⟩ h
  · replace h := wI_pos h67 h
    refine g_aload_n (q0 := 71) (j := 0) rfl dX11_sound_70 rfl ?_
    refine g_getp (q0 := 74) (b := 3) rfl ff_X11_19 dX11_sound_71 rfl hOK (by decide) (sh_0 hOK) rfl (by decide) ?_
    refine g_iload (q0 := 76) (j := 5) rfl dX11_sound_74 rfl ?_
    obtain ⟨v76, e76, h⟩ := h
    refine g_callVp (as := [_]) (rest := []) mt_X8_isOfPlan mi_X8_isOfPlan se_X8_isOfPlan ml_X11_200 dX11_sound_76 (q0 := 79) rfl rfl (sh_3 hOK) rfl rfl e76 rfl ⟨by decide, by decide⟩ (Nat.le_of_ble_eq_true rfl) ⟨Nat.zero_le _, Nat.zero_le _⟩ (fun _ => ?_)
    refine g_if_ne (q0 := 82) (tgt := 85) rfl dX11_sound_79 (by decide) (fun h79 => ?_) (fun h79 => ?_)
    · replace h := wI_neg h79 h
      refine g_iload_n (q0 := 86) (j := 2) rfl dX11_sound_85 rfl ?_
      refine g_iconst (q0 := 87) rfl dX11_sound_86 (k := ?_)
      refine g_icmp_ne (q0 := 90) (tgt := 112) rfl dX11_sound_87 (by decide) (fun h87 => ?_) (fun h87 => ?_)
      · replace h := wI_neg h87 h
        refine g_aload_n (q0 := 113) (j := 3) rfl dX11_sound_112 rfl ?_
        refine g_iload (q0 := 115) (j := 5) rfl dX11_sound_113 rfl ?_
        obtain ⟨g1, h⟩ := h
        obtain ⟨v115, e115, h⟩ := h
        refine g_callVp (as := [_]) (rest := []) mt_X5_isKept mi_X5_isKept se_X5_isKept ml_X11_466 dX11_sound_115 (q0 := 118) rfl rfl g1.1 rfl rfl e115 rfl ⟨by decide, by decide⟩ (Nat.le_of_ble_eq_true rfl) ⟨Nat.zero_le _, Nat.zero_le _⟩ (fun _ => ?_)
        refine g_if_eq (q0 := 121) (tgt := 134) rfl dX11_sound_118 (by decide) (fun h118 => ?_) (fun h118 => ?_)
        · replace h := wI_pos h118 h
          refine g_iincw (q0 := 137) (lv2 := [_, _, _, _, _, _]) rfl dX11_sound_134 rfl (by decide) rfl rfl ?_
          refine g_goto (tgt := 58) dX11_sound_137 (by decide) ?_
          exact h
        · replace h := wI_neg h118 h
          refine g_iload (q0 := 123) (j := 4) rfl dX11_sound_121 rfl ?_
          refine g_aload_n (q0 := 124) (j := 0) rfl dX11_sound_123 rfl ?_
          refine g_aload_n (q0 := 125) (j := 3) rfl dX11_sound_124 rfl ?_
          refine g_iload (q0 := 127) (j := 5) rfl dX11_sound_125 rfl ?_
          refine g_iload_n (q0 := 128) (j := 2) rfl dX11_sound_127 rfl ?_
          obtain ⟨P128, e128, h⟩ := h
          refine g_callVm (as := [_, _, _]) (rest := [_]) mt_X11_flawsOf mi_X11_flawsOf se_X11_flawsOf ml_X11_469 dX11_sound_128 (q0 := 131) rfl rfl (sh_0 hOK) rfl rfl e128 rfl ⟨by decide, by decide⟩ (Nat.le_of_ble_eq_true rfl) ⟨Nat.zero_le _, Nat.zero_le _⟩ (fun r128 M128 hP128 hw128 hMw128 => ?_)
          obtain ⟨v128, hr128, hOK2, h⟩ := h r128 M128 hP128
          subst hr128
          refine g_iaddw (q0 := 132) rfl dX11_sound_131 ?_
          refine g_istore (q0 := 134) (j := 4) (lv2 := [_, _, _, _, _, _]) rfl dX11_sound_132 (by decide) rfl rfl ?_
          refine g_iincw (q0 := 137) (lv2 := [_, _, _, _, _, _]) rfl dX11_sound_134 rfl (by decide) rfl rfl ?_
          refine g_goto (tgt := 58) dX11_sound_137 (by decide) ?_
          exact h
      · replace h := wI_pos h87 h
        refine g_iload (q0 := 92) (j := 4) rfl dX11_sound_90 rfl ?_
        refine g_aload_n (q0 := 93) (j := 3) rfl dX11_sound_92 rfl ?_
        refine g_iload (q0 := 95) (j := 5) rfl dX11_sound_93 rfl ?_
        obtain ⟨g3, h⟩ := h
        obtain ⟨v95, e95, h⟩ := h
        refine g_callVp (as := [_]) (rest := [_]) mt_X5_isMapped mi_X5_isMapped se_X5_isMapped ml_X11_432 dX11_sound_95 (q0 := 98) rfl rfl g3.1 rfl rfl e95 rfl ⟨by decide, by decide⟩ (Nat.le_of_ble_eq_true rfl) ⟨Nat.zero_le _, Nat.zero_le _⟩ (fun _ => ?_)
        refine g_if_eq (q0 := 101) (tgt := 105) rfl dX11_sound_98 (by decide) (fun h98 => ?_) (fun h98 => ?_)
        · replace h := wI_pos h98 h
          refine g_iconst (q0 := 106) rfl dX11_sound_105 (k := ?_)
          refine g_iaddw (q0 := 107) rfl dX11_sound_106 ?_
          refine g_istore (q0 := 109) (j := 4) (lv2 := [_, _, _, _, _, _]) rfl dX11_sound_107 (by decide) rfl rfl ?_
          refine g_goto (tgt := 134) dX11_sound_109 (by decide) ?_
          refine g_iincw (q0 := 137) (lv2 := [_, _, _, _, _, _]) rfl dX11_sound_134 rfl (by decide) rfl rfl ?_
          refine g_goto (tgt := 58) dX11_sound_137 (by decide) ?_
          exact h
        · replace h := wI_neg h98 h
          refine g_iconst (q0 := 102) rfl dX11_sound_101 (k := ?_)
          refine g_goto (tgt := 106) dX11_sound_102 (by decide) ?_
          refine g_iaddw (q0 := 107) rfl dX11_sound_106 ?_
          refine g_istore (q0 := 109) (j := 4) (lv2 := [_, _, _, _, _, _]) rfl dX11_sound_107 (by decide) rfl rfl ?_
          refine g_goto (tgt := 134) dX11_sound_109 (by decide) ?_
          refine g_iincw (q0 := 137) (lv2 := [_, _, _, _, _, _]) rfl dX11_sound_134 rfl (by decide) rfl rfl ?_
          refine g_goto (tgt := 58) dX11_sound_137 (by decide) ?_
          exact h
    · replace h := wI_pos h79 h
      refine g_goto (tgt := 134) dX11_sound_82 (by decide) ?_
      refine g_iincw (q0 := 137) (lv2 := [_, _, _, _, _, _]) rfl dX11_sound_134 rfl (by decide) rfl rfl ?_
      refine g_goto (tgt := 58) dX11_sound_137 (by decide) ?_
      exact h
theorem w_X11_sound {sh : gS} {Q : Option gV → gS → gM → Prop} {a1 a2 : Int} {M : gM} (hOK : gOK sh M) (h : (∃ v1 : Int, gC (gr 0 0) yX11_isPlan cX11_isPlan 1 (some (.boolean)) [(0, a1)] sh M (gPp sh M (0, v1)) ∧
    (if v1 = 0 then
      (Q (some (0, -1)) sh M)
    else
      (if a2 < 0 then
        (Q (some (0, -1)) sh M)
      else
        (if (5 : Int) < a2 then
          (Q (some (0, -1)) sh M)
        else
          ((0 ≤ a1 ∧ a1 < 4) ∧
            ((gsh sh (519 + 48 * a1) = some (0, 6) ∧ (519 + 48 * a1) < 758) ∧
              (if (M (519 + 48 * a1) 0) = 0 then
                (Q (some (0, -3)) sh M)
              else
                ((0 ≤ (M (519 + 48 * a1) 2) ∧ (M (519 + 48 * a1) 2) < 4) ∧
                  (∃ P49 : Option gV → gM → Prop, gC (gr 2 46) yX8_markPlan cX8_markPlan 7 none [(4, 3), (4, (519 + 48 * a1)), (4, (479 + 10 * (M (519 + 48 * a1) 2)))] sh M (gPm sh P49) ∧ ∀ (r49 : Option gV) (M49 : gM), P49 r49 M49 → r49 = none ∧ gOK sh M49 ∧
                    (P_X11_sound_58 sh Q a1 a2 (519 + 48 * a1) 0 0 M49))))))))))) : gC (gr 5 125) yX11_sound cX11_sound 6 (some (.int)) [(4, 0), (0, a1), (0, a2)] sh M Q := by
  refine gC_ofA (lv := [_, _, _, _, _, _]) (by decide +kernel) (Nat.le_of_ble_eq_true rfl) rfl (fun hMw hav => ?_)
  refine g_iload_n (q0 := 1) (j := 1) rfl dX11_sound_0 rfl ?_
  obtain ⟨v1, e1, h⟩ := h
  refine g_callSp (as := [_]) (rest := []) mt_X11_isPlan ms_X11_isPlan ml_X11_132 dX11_sound_1 (q0 := 4) rfl rfl e1 rfl ⟨by decide, by decide⟩ (Nat.le_of_ble_eq_true rfl) ⟨Nat.zero_le _, Nat.zero_le _⟩ (fun _ => ?_)
  refine g_if_eq (q0 := 7) (tgt := 16) rfl dX11_sound_4 (by decide) (fun h4 => ?_) (fun h4 => ?_)
  · replace h := wI_pos h4 h
    refine g_iconst (q0 := 17) rfl dX11_sound_16 (k := ?_)
    exact g_ireturn dX11_sound_17 rfl ⟨Nat.zero_le _, Nat.zero_le _⟩ h
  · replace h := wI_neg h4 h
    refine g_iload_n (q0 := 8) (j := 2) rfl dX11_sound_7 rfl ?_
    refine g_if_lt (q0 := 11) (tgt := 16) rfl dX11_sound_8 (by decide) (fun h8 => ?_) (fun h8 => ?_)
    · replace h := wI_pos h8 h
      refine g_iconst (q0 := 17) rfl dX11_sound_16 (k := ?_)
      exact g_ireturn dX11_sound_17 rfl ⟨Nat.zero_le _, Nat.zero_le _⟩ h
    · replace h := wI_neg (Int.not_lt.mpr h8) h
      refine g_iload_n (q0 := 12) (j := 2) rfl dX11_sound_11 rfl ?_
      refine g_iconst (q0 := 13) rfl dX11_sound_12 (k := ?_)
      refine g_icmp_le (q0 := 16) (tgt := 18) rfl dX11_sound_13 (by decide) (fun h13 => ?_) (fun h13 => ?_)
      · replace h := wI_neg (Int.not_lt.mpr h13) h
        refine g_aload_n (q0 := 19) (j := 0) rfl dX11_sound_18 rfl ?_
        refine g_getp (q0 := 22) (b := 409) rfl ff_X11_43 dX11_sound_19 rfl hOK (by decide) (sh_0 hOK) rfl (by decide) ?_
        refine g_iload_n (q0 := 23) (j := 1) rfl dX11_sound_22 rfl ?_
        obtain ⟨g4, h⟩ := h
        refine g_aald (q0 := 24) (q := 2) rfl dX11_sound_23 (sh_409 hOK) rfl g4.1 g4.2 ?_
        rw [(hOK.2.2.2 _ g4.1 g4.2).2.2.1]
        refine g_astore_n (q0 := 25) (j := 3) (lv2 := [_, _, _, _, _, _]) rfl dX11_sound_24 (by decide) rfl rfl ?_
        refine g_aload_n (q0 := 26) (j := 3) rfl dX11_sound_25 rfl ?_
        obtain ⟨g5, h⟩ := h
        refine g_getf (q0 := 29) (t := 0) (fi := 0) rfl rfl ff_X11_189 dX11_sound_26 rfl g5.1 ?_
        refine g_if_ne (q0 := 32) (tgt := 35) rfl dX11_sound_29 (by decide) (fun h29 => ?_) (fun h29 => ?_)
        · replace h := wI_neg h29 h
          refine g_aload_n (q0 := 36) (j := 0) rfl dX11_sound_35 rfl ?_
          refine g_getp (q0 := 39) (b := 3) rfl ff_X11_19 dX11_sound_36 rfl hOK (by decide) (sh_0 hOK) rfl (by decide) ?_
          refine g_aload_n (q0 := 40) (j := 3) rfl dX11_sound_39 rfl ?_
          refine g_aload_n (q0 := 41) (j := 0) rfl dX11_sound_40 rfl ?_
          refine g_getp (q0 := 44) (b := 408) rfl ff_X11_37 dX11_sound_41 rfl hOK (by decide) (sh_0 hOK) rfl (by decide) ?_
          refine g_aload_n (q0 := 45) (j := 3) rfl dX11_sound_44 rfl ?_
          refine g_getf (q0 := 48) (t := 0) (fi := 2) rfl rfl ff_X11_193 dX11_sound_45 rfl g5.1 ?_
          obtain ⟨g6, h⟩ := h
          refine g_aald (q0 := 49) (q := 1) rfl dX11_sound_48 (sh_408 hOK) rfl g6.1 g6.2 ?_
          rw [(hOK.2.2.2 _ g6.1 g6.2).1]
          obtain ⟨P49, e49, h⟩ := h
          refine g_callVm (as := [_, _]) (rest := []) mt_X8_markPlan mi_X8_markPlan se_X8_markPlan ml_X11_462 dX11_sound_49 (q0 := 52) rfl rfl (sh_3 hOK) rfl rfl e49 rfl ⟨by decide, by decide⟩ (Nat.le_of_ble_eq_true rfl) ⟨Nat.zero_le _, Nat.zero_le _⟩ (fun r49 M49 hP49 hw49 hMw49 => ?_)
          obtain ⟨hr49, hOK7, h⟩ := h r49 M49 hP49
          subst hr49
          refine g_iconst (q0 := 53) rfl dX11_sound_52 (k := ?_)
          refine g_istore (q0 := 55) (j := 4) (lv2 := [_, _, _, _, _, _]) rfl dX11_sound_53 (by decide) rfl rfl ?_
          refine g_iconst (q0 := 56) rfl dX11_sound_55 (k := ?_)
          refine g_istore (q0 := 58) (j := 5) (lv2 := [_, _, _, _, _, _]) rfl dX11_sound_56 (by decide) rfl rfl ?_
          exact h
        · replace h := wI_pos h29 h
          refine g_bipush (q0 := 34) rfl dX11_sound_32 (k := ?_)
          exact g_ireturn dX11_sound_34 rfl ⟨Nat.zero_le _, Nat.zero_le _⟩ h
      · replace h := wI_pos h13 h
        refine g_iconst (q0 := 17) rfl dX11_sound_16 (k := ?_)
        exact g_ireturn dX11_sound_17 rfl ⟨Nat.zero_le _, Nat.zero_le _⟩ h
-- ==== X11_flawsOf
theorem dX11_flawsOf_0 : decode cX11_flawsOf 0 = .ok (.iload_n 3, 1) := by decide +kernel
theorem dX11_flawsOf_1 : decode cX11_flawsOf 1 = .ok (.iconst 3, 1) := by decide +kernel
theorem dX11_flawsOf_2 : decode cX11_flawsOf 2 = .ok (.if_icmp .ne 27, 3) := by decide +kernel
theorem dX11_flawsOf_5 : decode cX11_flawsOf 5 = .ok (.aload_n 0, 1) := by decide +kernel
theorem dX11_flawsOf_6 : decode cX11_flawsOf 6 = .ok (.getfield 19, 3) := by decide +kernel
theorem dX11_flawsOf_9 : decode cX11_flawsOf 9 = .ok (.aload_n 1, 1) := by decide +kernel
theorem dX11_flawsOf_10 : decode cX11_flawsOf 10 = .ok (.aload_n 0, 1) := by decide +kernel
theorem dX11_flawsOf_11 : decode cX11_flawsOf 11 = .ok (.getfield 27, 3) := by decide +kernel
theorem dX11_flawsOf_14 : decode cX11_flawsOf 14 = .ok (.iload_n 2, 1) := by decide +kernel
theorem dX11_flawsOf_15 : decode cX11_flawsOf 15 = .ok (.invokevirtual 155, 3) := by decide +kernel
theorem dX11_flawsOf_18 : decode cX11_flawsOf 18 = .ok (.invokevirtual 437, 3) := by decide +kernel
theorem dX11_flawsOf_21 : decode cX11_flawsOf 21 = .ok (.aload_n 0, 1) := by decide +kernel
theorem dX11_flawsOf_22 : decode cX11_flawsOf 22 = .ok (.getfield 19, 3) := by decide +kernel
theorem dX11_flawsOf_25 : decode cX11_flawsOf 25 = .ok (.getfield 447, 3) := by decide +kernel
theorem dX11_flawsOf_28 : decode cX11_flawsOf 28 = .ok (.ireturn, 1) := by decide +kernel
theorem dX11_flawsOf_29 : decode cX11_flawsOf 29 = .ok (.iload_n 3, 1) := by decide +kernel
theorem dX11_flawsOf_30 : decode cX11_flawsOf 30 = .ok (.iconst 4, 1) := by decide +kernel
theorem dX11_flawsOf_31 : decode cX11_flawsOf 31 = .ok (.if_icmp .ne 40, 3) := by decide +kernel
theorem dX11_flawsOf_34 : decode cX11_flawsOf 34 = .ok (.aload_n 1, 1) := by decide +kernel
theorem dX11_flawsOf_35 : decode cX11_flawsOf 35 = .ok (.aload_n 0, 1) := by decide +kernel
theorem dX11_flawsOf_36 : decode cX11_flawsOf 36 = .ok (.getfield 27, 3) := by decide +kernel
theorem dX11_flawsOf_39 : decode cX11_flawsOf 39 = .ok (.iload_n 2, 1) := by decide +kernel
theorem dX11_flawsOf_40 : decode cX11_flawsOf 40 = .ok (.invokevirtual 473, 3) := by decide +kernel
theorem dX11_flawsOf_43 : decode cX11_flawsOf 43 = .ok (.iconst 2, 1) := by decide +kernel
theorem dX11_flawsOf_44 : decode cX11_flawsOf 44 = .ok (.if_icmp .lt 25, 3) := by decide +kernel
theorem dX11_flawsOf_47 : decode cX11_flawsOf 47 = .ok (.aload_n 0, 1) := by decide +kernel
theorem dX11_flawsOf_48 : decode cX11_flawsOf 48 = .ok (.getfield 27, 3) := by decide +kernel
theorem dX11_flawsOf_51 : decode cX11_flawsOf 51 = .ok (.getfield 295, 3) := by decide +kernel
theorem dX11_flawsOf_54 : decode cX11_flawsOf 54 = .ok (.aload_n 1, 1) := by decide +kernel
theorem dX11_flawsOf_55 : decode cX11_flawsOf 55 = .ok (.getfield 436, 3) := by decide +kernel
theorem dX11_flawsOf_58 : decode cX11_flawsOf 58 = .ok (.iload_n 2, 1) := by decide +kernel
theorem dX11_flawsOf_59 : decode cX11_flawsOf 59 = .ok (.iaload, 1) := by decide +kernel
theorem dX11_flawsOf_60 : decode cX11_flawsOf 60 = .ok (.iaload, 1) := by decide +kernel
theorem dX11_flawsOf_61 : decode cX11_flawsOf 61 = .ok (.iconst 1, 1) := by decide +kernel
theorem dX11_flawsOf_62 : decode cX11_flawsOf 62 = .ok (.if_icmp .gt 7, 3) := by decide +kernel
theorem dX11_flawsOf_65 : decode cX11_flawsOf 65 = .ok (.iconst 1, 1) := by decide +kernel
theorem dX11_flawsOf_66 : decode cX11_flawsOf 66 = .ok (.goto 4, 3) := by decide +kernel
theorem dX11_flawsOf_69 : decode cX11_flawsOf 69 = .ok (.iconst 0, 1) := by decide +kernel
theorem dX11_flawsOf_70 : decode cX11_flawsOf 70 = .ok (.ireturn, 1) := by decide +kernel
theorem dX11_flawsOf_71 : decode cX11_flawsOf 71 = .ok (.iconst 0, 1) := by decide +kernel
theorem dX11_flawsOf_72 : decode cX11_flawsOf 72 = .ok (.istore 4, 2) := by decide +kernel
theorem dX11_flawsOf_74 : decode cX11_flawsOf 74 = .ok (.iconst 0, 1) := by decide +kernel
theorem dX11_flawsOf_75 : decode cX11_flawsOf 75 = .ok (.istore 5, 2) := by decide +kernel
theorem dX11_flawsOf_77 : decode cX11_flawsOf 77 = .ok (.iload 5, 2) := by decide +kernel
theorem dX11_flawsOf_79 : decode cX11_flawsOf 79 = .ok (.iload_n 2, 1) := by decide +kernel
theorem dX11_flawsOf_80 : decode cX11_flawsOf 80 = .ok (.if_icmp .ge 45, 3) := by decide +kernel
theorem dX11_flawsOf_83 : decode cX11_flawsOf 83 = .ok (.aload_n 0, 1) := by decide +kernel
theorem dX11_flawsOf_84 : decode cX11_flawsOf 84 = .ok (.getfield 19, 3) := by decide +kernel
theorem dX11_flawsOf_87 : decode cX11_flawsOf 87 = .ok (.iload 5, 2) := by decide +kernel
theorem dX11_flawsOf_89 : decode cX11_flawsOf 89 = .ok (.invokevirtual 200, 3) := by decide +kernel
theorem dX11_flawsOf_92 : decode cX11_flawsOf 92 = .ok (.ifCond .eq 27, 3) := by decide +kernel
theorem dX11_flawsOf_95 : decode cX11_flawsOf 95 = .ok (.aload_n 1, 1) := by decide +kernel
theorem dX11_flawsOf_96 : decode cX11_flawsOf 96 = .ok (.iload 5, 2) := by decide +kernel
theorem dX11_flawsOf_98 : decode cX11_flawsOf 98 = .ok (.invokevirtual 466, 3) := by decide +kernel
theorem dX11_flawsOf_101 : decode cX11_flawsOf 101 = .ok (.ifCond .eq 18, 3) := by decide +kernel
theorem dX11_flawsOf_104 : decode cX11_flawsOf 104 = .ok (.aload_n 0, 1) := by decide +kernel
theorem dX11_flawsOf_105 : decode cX11_flawsOf 105 = .ok (.aload_n 1, 1) := by decide +kernel
theorem dX11_flawsOf_106 : decode cX11_flawsOf 106 = .ok (.iload 5, 2) := by decide +kernel
theorem dX11_flawsOf_108 : decode cX11_flawsOf 108 = .ok (.iload_n 2, 1) := by decide +kernel
theorem dX11_flawsOf_109 : decode cX11_flawsOf 109 = .ok (.iload_n 3, 1) := by decide +kernel
theorem dX11_flawsOf_110 : decode cX11_flawsOf 110 = .ok (.invokevirtual 477, 3) := by decide +kernel
theorem dX11_flawsOf_113 : decode cX11_flawsOf 113 = .ok (.ifCond .eq 6, 3) := by decide +kernel
theorem dX11_flawsOf_116 : decode cX11_flawsOf 116 = .ok (.iinc 4 1, 3) := by decide +kernel
theorem dX11_flawsOf_119 : decode cX11_flawsOf 119 = .ok (.iinc 5 1, 3) := by decide +kernel
theorem dX11_flawsOf_122 : decode cX11_flawsOf 122 = .ok (.goto (-45), 3) := by decide +kernel
theorem dX11_flawsOf_125 : decode cX11_flawsOf 125 = .ok (.iload_n 3, 1) := by decide +kernel
theorem dX11_flawsOf_126 : decode cX11_flawsOf 126 = .ok (.iconst 2, 1) := by decide +kernel
theorem dX11_flawsOf_127 : decode cX11_flawsOf 127 = .ok (.if_icmp .ne 13, 3) := by decide +kernel
theorem dX11_flawsOf_130 : decode cX11_flawsOf 130 = .ok (.iload 4, 2) := by decide +kernel
theorem dX11_flawsOf_132 : decode cX11_flawsOf 132 = .ok (.iconst 1, 1) := by decide +kernel
theorem dX11_flawsOf_133 : decode cX11_flawsOf 133 = .ok (.if_icmp .le 7, 3) := by decide +kernel
theorem dX11_flawsOf_136 : decode cX11_flawsOf 136 = .ok (.iconst 1, 1) := by decide +kernel
theorem dX11_flawsOf_137 : decode cX11_flawsOf 137 = .ok (.goto 5, 3) := by decide +kernel
theorem dX11_flawsOf_140 : decode cX11_flawsOf 140 = .ok (.iload 4, 2) := by decide +kernel
theorem dX11_flawsOf_142 : decode cX11_flawsOf 142 = .ok (.ireturn, 1) := by decide +kernel
def P_X11_flawsOf_77 (sh : gS) (Q : Option gV → gS → gM → Prop) (x1 x2 x3 x4 x5 : Int) (M : gM) : Prop := gA (gr 4 100) yX11_flawsOf cX11_flawsOf 6 (some (.int)) Q (0, 0) 77 [(4, 0), (4, x1), (0, x2), (0, x3), (0, x4), (0, x5)] [] sh M
theorem w_X11_flawsOf_77 {sh : gS} {Q : Option gV → gS → gM → Prop} {x1 x2 x3 x4 x5 : Int} {M : gM} (hOK : gOK sh M) (h : (if x5 < x2 then
    (∃ v89 : Int, gC (gr 1 22) yX8_isOfPlan cX8_isOfPlan 2 (some (.boolean)) [(4, 3), (0, x5)] sh M (gPp sh M (0, v89)) ∧
      (if v89 = 0 then
        (P_X11_flawsOf_77 sh Q x1 x2 x3 x4 (gw32 (x5 + 1)) M)
      else
        ((gsh sh x1 = some (0, 6) ∧ x1 < 758) ∧
          (∃ v98 : Int, gC (gr 0 0) yX5_isKept cX5_isKept 2 (some (.boolean)) [(4, x1), (0, x5)] sh M (gPp sh M (0, v98)) ∧
            (if v98 = 0 then
              (P_X11_flawsOf_77 sh Q x1 x2 x3 x4 (gw32 (x5 + 1)) M)
            else
              (∃ v110 : Int, gC (gr 2 44) yX11_isFlawed cX11_isFlawed 7 (some (.boolean)) [(4, 0), (4, x1), (0, x5), (0, x2), (0, x3)] sh M (gPp sh M (0, v110)) ∧
                (if v110 = 0 then
                  (P_X11_flawsOf_77 sh Q x1 x2 x3 x4 (gw32 (x5 + 1)) M)
                else
                  (P_X11_flawsOf_77 sh Q x1 x2 x3 (gw32 (x4 + 1)) (gw32 (x5 + 1)) M))))))))
  else
    (if x3 = 2 then
      (if (1 : Int) < x4 then
        (Q (some (0, 1)) sh M)
      else
        (Q (some (0, x4)) sh M))
    else
      (Q (some (0, x4)) sh M)))) : P_X11_flawsOf_77 sh Q x1 x2 x3 x4 x5 M := by
  unfold P_X11_flawsOf_77
  refine g_iload (q0 := 79) (j := 5) rfl dX11_flawsOf_77 rfl ?_
  refine g_iload_n (q0 := 80) (j := 2) rfl dX11_flawsOf_79 rfl ?_
  refine g_icmp_ge (q0 := 83) (tgt := 125) rfl dX11_flawsOf_80 (by decide) (fun h80 => ?_) (fun h80 => ?_)
  · replace h := wI_neg (Int.not_lt.mpr h80) h
    refine g_iload_n (q0 := 126) (j := 3) rfl dX11_flawsOf_125 rfl ?_
    refine g_iconst (q0 := 127) rfl dX11_flawsOf_126 (k := ?_)
    refine g_icmp_ne (q0 := 130) (tgt := 140) rfl dX11_flawsOf_127 (by decide) (fun h127 => ?_) (fun h127 => ?_)
    · replace h := wI_neg h127 h
      refine g_iload (q0 := 142) (j := 4) rfl dX11_flawsOf_140 rfl ?_
      exact g_ireturn dX11_flawsOf_142 rfl ⟨Nat.zero_le _, Nat.zero_le _⟩ h
    · replace h := wI_pos h127 h
      refine g_iload (q0 := 132) (j := 4) rfl dX11_flawsOf_130 rfl ?_
      refine g_iconst (q0 := 133) rfl dX11_flawsOf_132 (k := ?_)
      refine g_icmp_le (q0 := 136) (tgt := 140) rfl dX11_flawsOf_133 (by decide) (fun h133 => ?_) (fun h133 => ?_)
      · replace h := wI_neg (Int.not_lt.mpr h133) h
        refine g_iload (q0 := 142) (j := 4) rfl dX11_flawsOf_140 rfl ?_
        exact g_ireturn dX11_flawsOf_142 rfl ⟨Nat.zero_le _, Nat.zero_le _⟩ h
      · replace h := wI_pos h133 h
        refine g_iconst (q0 := 137) rfl dX11_flawsOf_136 (k := ?_)
        refine g_goto (tgt := 142) dX11_flawsOf_137 (by decide) ?_
        exact g_ireturn dX11_flawsOf_142 rfl ⟨Nat.zero_le _, Nat.zero_le _⟩ h
  · replace h := wI_pos h80 h
    refine g_aload_n (q0 := 84) (j := 0) rfl dX11_flawsOf_83 rfl ?_
    refine g_getp (q0 := 87) (b := 3) rfl ff_X11_19 dX11_flawsOf_84 rfl hOK (by decide) (sh_0 hOK) rfl (by decide) ?_
    refine g_iload (q0 := 89) (j := 5) rfl dX11_flawsOf_87 rfl ?_
    obtain ⟨v89, e89, h⟩ := h
    refine g_callVp (as := [_]) (rest := []) mt_X8_isOfPlan mi_X8_isOfPlan se_X8_isOfPlan ml_X11_200 dX11_flawsOf_89 (q0 := 92) rfl rfl (sh_3 hOK) rfl rfl e89 rfl ⟨by decide, by decide⟩ (Nat.le_of_ble_eq_true rfl) ⟨Nat.zero_le _, Nat.zero_le _⟩ (fun _ => ?_)
    refine g_if_eq (q0 := 95) (tgt := 119) rfl dX11_flawsOf_92 (by decide) (fun h92 => ?_) (fun h92 => ?_)
    · replace h := wI_pos h92 h
      refine g_iincw (q0 := 122) (lv2 := [_, _, _, _, _, _]) rfl dX11_flawsOf_119 rfl (by decide) rfl rfl ?_
      refine g_goto (tgt := 77) dX11_flawsOf_122 (by decide) ?_
      exact h
    · replace h := wI_neg h92 h
      refine g_aload_n (q0 := 96) (j := 1) rfl dX11_flawsOf_95 rfl ?_
      refine g_iload (q0 := 98) (j := 5) rfl dX11_flawsOf_96 rfl ?_
      obtain ⟨g1, h⟩ := h
      obtain ⟨v98, e98, h⟩ := h
      refine g_callVp (as := [_]) (rest := []) mt_X5_isKept mi_X5_isKept se_X5_isKept ml_X11_466 dX11_flawsOf_98 (q0 := 101) rfl rfl g1.1 rfl rfl e98 rfl ⟨by decide, by decide⟩ (Nat.le_of_ble_eq_true rfl) ⟨Nat.zero_le _, Nat.zero_le _⟩ (fun _ => ?_)
      refine g_if_eq (q0 := 104) (tgt := 119) rfl dX11_flawsOf_101 (by decide) (fun h101 => ?_) (fun h101 => ?_)
      · replace h := wI_pos h101 h
        refine g_iincw (q0 := 122) (lv2 := [_, _, _, _, _, _]) rfl dX11_flawsOf_119 rfl (by decide) rfl rfl ?_
        refine g_goto (tgt := 77) dX11_flawsOf_122 (by decide) ?_
        exact h
      · replace h := wI_neg h101 h
        refine g_aload_n (q0 := 105) (j := 0) rfl dX11_flawsOf_104 rfl ?_
        refine g_aload_n (q0 := 106) (j := 1) rfl dX11_flawsOf_105 rfl ?_
        refine g_iload (q0 := 108) (j := 5) rfl dX11_flawsOf_106 rfl ?_
        refine g_iload_n (q0 := 109) (j := 2) rfl dX11_flawsOf_108 rfl ?_
        refine g_iload_n (q0 := 110) (j := 3) rfl dX11_flawsOf_109 rfl ?_
        obtain ⟨v110, e110, h⟩ := h
        refine g_callVp (as := [_, _, _, _]) (rest := []) mt_X11_isFlawed mi_X11_isFlawed se_X11_isFlawed ml_X11_477 dX11_flawsOf_110 (q0 := 113) rfl rfl (sh_0 hOK) rfl rfl e110 rfl ⟨by decide, by decide⟩ (Nat.le_of_ble_eq_true rfl) ⟨Nat.zero_le _, Nat.zero_le _⟩ (fun _ => ?_)
        refine g_if_eq (q0 := 116) (tgt := 119) rfl dX11_flawsOf_113 (by decide) (fun h113 => ?_) (fun h113 => ?_)
        · replace h := wI_pos h113 h
          refine g_iincw (q0 := 122) (lv2 := [_, _, _, _, _, _]) rfl dX11_flawsOf_119 rfl (by decide) rfl rfl ?_
          refine g_goto (tgt := 77) dX11_flawsOf_122 (by decide) ?_
          exact h
        · replace h := wI_neg h113 h
          refine g_iincw (q0 := 119) (lv2 := [_, _, _, _, _, _]) rfl dX11_flawsOf_116 rfl (by decide) rfl rfl ?_
          refine g_iincw (q0 := 122) (lv2 := [_, _, _, _, _, _]) rfl dX11_flawsOf_119 rfl (by decide) rfl rfl ?_
          refine g_goto (tgt := 77) dX11_flawsOf_122 (by decide) ?_
          exact h
theorem w_X11_flawsOf {sh : gS} {Q : Option gV → gS → gM → Prop} {a1 a2 a3 : Int} {M : gM} (hOK : gOK sh M) (h : (if a3 = 3 then
    (∃ v15 : Int, gC (gr 0 0) yX1_tree cX1_tree 2 (some (.object "CarriedHistory$Tree")) [(4, 4), (0, a2)] sh M (gPp sh M (4, v15)) ∧
      (∃ P18 : Option gV → gM → Prop, gC (gr 3 73) yX8_carryTree cX8_carryTree 8 none [(4, 3), (4, a1), (4, v15)] sh M (gPm sh P18) ∧ ∀ (r18 : Option gV) (M18 : gM), P18 r18 M18 → r18 = none ∧ gOK sh M18 ∧
        (Q (some (0, (M18 3 7))) sh M18)))
  else
    (if a3 = 4 then
      ((gsh sh a1 = some (0, 6) ∧ a1 < 758) ∧
        (∃ v40 : Int, gC (gr 1 22) yX5_foreCount cX5_foreCount 4 (some (.int)) [(4, a1), (4, 4), (0, a2)] sh M (gPp sh M (0, v40)) ∧
          (if v40 < 2 then
            (Q (some (0, 0)) sh M)
          else
            (∃ n3 : Nat, gsh sh (a1 + 22) = some (1, n3) ∧
              ((0 ≤ a2 ∧ a2 < (n3 : Int)) ∧
                ((0 ≤ (M (a1 + 22) a2) ∧ (M (a1 + 22) a2) < 120) ∧
                  (if (1 : Int) < (M 5 (M (a1 + 22) a2)) then
                    (Q (some (0, 0)) sh M)
                  else
                    (Q (some (0, 1)) sh M))))))))
    else
      (P_X11_flawsOf_77 sh Q a1 a2 a3 0 0 M)))) : gC (gr 4 100) yX11_flawsOf cX11_flawsOf 6 (some (.int)) [(4, 0), (4, a1), (0, a2), (0, a3)] sh M Q := by
  refine gC_ofA (lv := [_, _, _, _, _, _]) (by decide +kernel) (Nat.le_of_ble_eq_true rfl) rfl (fun hMw hav => ?_)
  refine g_iload_n (q0 := 1) (j := 3) rfl dX11_flawsOf_0 rfl ?_
  refine g_iconst (q0 := 2) rfl dX11_flawsOf_1 (k := ?_)
  refine g_icmp_ne (q0 := 5) (tgt := 29) rfl dX11_flawsOf_2 (by decide) (fun h2 => ?_) (fun h2 => ?_)
  · replace h := wI_neg h2 h
    refine g_iload_n (q0 := 30) (j := 3) rfl dX11_flawsOf_29 rfl ?_
    refine g_iconst (q0 := 31) rfl dX11_flawsOf_30 (k := ?_)
    refine g_icmp_ne (q0 := 34) (tgt := 71) rfl dX11_flawsOf_31 (by decide) (fun h31 => ?_) (fun h31 => ?_)
    · replace h := wI_neg h31 h
      refine g_iconst (q0 := 72) rfl dX11_flawsOf_71 (k := ?_)
      refine g_istore (q0 := 74) (j := 4) (lv2 := [_, _, _, _, _, _]) rfl dX11_flawsOf_72 (by decide) rfl rfl ?_
      refine g_iconst (q0 := 75) rfl dX11_flawsOf_74 (k := ?_)
      refine g_istore (q0 := 77) (j := 5) (lv2 := [_, _, _, _, _, _]) rfl dX11_flawsOf_75 (by decide) rfl rfl ?_
      exact h
    · replace h := wI_pos h31 h
      refine g_aload_n (q0 := 35) (j := 1) rfl dX11_flawsOf_34 rfl ?_
      refine g_aload_n (q0 := 36) (j := 0) rfl dX11_flawsOf_35 rfl ?_
      refine g_getp (q0 := 39) (b := 4) rfl ff_X11_27 dX11_flawsOf_36 rfl hOK (by decide) (sh_0 hOK) rfl (by decide) ?_
      refine g_iload_n (q0 := 40) (j := 2) rfl dX11_flawsOf_39 rfl ?_
      obtain ⟨g2, h⟩ := h
      obtain ⟨v40, e40, h⟩ := h
      refine g_callVp (as := [_, _]) (rest := []) mt_X5_foreCount mi_X5_foreCount se_X5_foreCount ml_X11_473 dX11_flawsOf_40 (q0 := 43) rfl rfl g2.1 rfl rfl e40 rfl ⟨by decide, by decide⟩ (Nat.le_of_ble_eq_true rfl) ⟨Nat.zero_le _, Nat.zero_le _⟩ (fun _ => ?_)
      refine g_iconst (q0 := 44) rfl dX11_flawsOf_43 (k := ?_)
      refine g_icmp_lt (q0 := 47) (tgt := 69) rfl dX11_flawsOf_44 (by decide) (fun h44 => ?_) (fun h44 => ?_)
      · replace h := wI_pos h44 h
        refine g_iconst (q0 := 70) rfl dX11_flawsOf_69 (k := ?_)
        exact g_ireturn dX11_flawsOf_70 rfl ⟨Nat.zero_le _, Nat.zero_le _⟩ h
      · replace h := wI_neg (Int.not_lt.mpr h44) h
        refine g_aload_n (q0 := 48) (j := 0) rfl dX11_flawsOf_47 rfl ?_
        refine g_getp (q0 := 51) (b := 4) rfl ff_X11_27 dX11_flawsOf_48 rfl hOK (by decide) (sh_0 hOK) rfl (by decide) ?_
        refine g_getp (q0 := 54) (b := 5) rfl ff_X11_295 dX11_flawsOf_51 rfl hOK (by decide) (sh_4 hOK) rfl (by decide) ?_
        refine g_aload_n (q0 := 55) (j := 1) rfl dX11_flawsOf_54 rfl ?_
        refine g_getp (q0 := 58) (b := (a1 + 22)) rfl ff_X11_436 dX11_flawsOf_55 rfl hOK g2.2 g2.1 rfl rfl ?_
        refine g_iload_n (q0 := 59) (j := 2) rfl dX11_flawsOf_58 rfl ?_
        obtain ⟨n3, sn3, h⟩ := h
        obtain ⟨g4, h⟩ := h
        refine g_iald (q0 := 60) rfl dX11_flawsOf_59 sn3 g4.1 g4.2 ?_
        obtain ⟨g5, h⟩ := h
        refine g_iald (q0 := 61) rfl dX11_flawsOf_60 (sh_5 hOK) g5.1 g5.2 ?_
        refine g_iconst (q0 := 62) rfl dX11_flawsOf_61 (k := ?_)
        refine g_icmp_gt (q0 := 65) (tgt := 69) rfl dX11_flawsOf_62 (by decide) (fun h62 => ?_) (fun h62 => ?_)
        · replace h := wI_pos h62 h
          refine g_iconst (q0 := 70) rfl dX11_flawsOf_69 (k := ?_)
          exact g_ireturn dX11_flawsOf_70 rfl ⟨Nat.zero_le _, Nat.zero_le _⟩ h
        · replace h := wI_neg (Int.not_lt.mpr h62) h
          refine g_iconst (q0 := 66) rfl dX11_flawsOf_65 (k := ?_)
          refine g_goto (tgt := 70) dX11_flawsOf_66 (by decide) ?_
          exact g_ireturn dX11_flawsOf_70 rfl ⟨Nat.zero_le _, Nat.zero_le _⟩ h
  · replace h := wI_pos h2 h
    refine g_aload_n (q0 := 6) (j := 0) rfl dX11_flawsOf_5 rfl ?_
    refine g_getp (q0 := 9) (b := 3) rfl ff_X11_19 dX11_flawsOf_6 rfl hOK (by decide) (sh_0 hOK) rfl (by decide) ?_
    refine g_aload_n (q0 := 10) (j := 1) rfl dX11_flawsOf_9 rfl ?_
    refine g_aload_n (q0 := 11) (j := 0) rfl dX11_flawsOf_10 rfl ?_
    refine g_getp (q0 := 14) (b := 4) rfl ff_X11_27 dX11_flawsOf_11 rfl hOK (by decide) (sh_0 hOK) rfl (by decide) ?_
    refine g_iload_n (q0 := 15) (j := 2) rfl dX11_flawsOf_14 rfl ?_
    obtain ⟨v15, e15, h⟩ := h
    refine g_callVp (as := [_]) (rest := [_, _]) mt_X1_tree mi_X1_tree se_X1_tree ml_X11_155 dX11_flawsOf_15 (q0 := 18) rfl rfl (sh_4 hOK) rfl rfl e15 rfl ⟨by decide, by decide⟩ (Nat.le_of_ble_eq_true rfl) ⟨Nat.zero_le _, Nat.zero_le _⟩ (fun _ => ?_)
    obtain ⟨P18, e18, h⟩ := h
    refine g_callVm (as := [_, _]) (rest := []) mt_X8_carryTree mi_X8_carryTree se_X8_carryTree ml_X11_437 dX11_flawsOf_18 (q0 := 21) rfl rfl (sh_3 hOK) rfl rfl e18 rfl ⟨by decide, by decide⟩ (Nat.le_of_ble_eq_true rfl) ⟨Nat.zero_le _, Nat.zero_le _⟩ (fun r18 M18 hP18 hw18 hMw18 => ?_)
    obtain ⟨hr18, hOK6, h⟩ := h r18 M18 hP18
    subst hr18
    refine g_aload_n (q0 := 22) (j := 0) rfl dX11_flawsOf_21 rfl ?_
    refine g_getp (q0 := 25) (b := 3) rfl ff_X11_19 dX11_flawsOf_22 rfl hOK6 (by decide) (sh_0 hOK6) rfl (by decide) ?_
    refine g_getf (q0 := 28) (t := 0) (fi := 7) rfl rfl ff_X11_447 dX11_flawsOf_25 rfl (sh_3 hOK6) ?_
    exact g_ireturn dX11_flawsOf_28 rfl ⟨Nat.zero_le _, Nat.zero_le _⟩ h
-- ==== X11_isFlawed
theorem dX11_isFlawed_0 : decode cX11_isFlawed 0 = .ok (.aload_n 1, 1) := by decide +kernel
theorem dX11_isFlawed_1 : decode cX11_isFlawed 1 = .ok (.getfield 436, 3) := by decide +kernel
theorem dX11_isFlawed_4 : decode cX11_isFlawed 4 = .ok (.iload_n 2, 1) := by decide +kernel
theorem dX11_isFlawed_5 : decode cX11_isFlawed 5 = .ok (.iaload, 1) := by decide +kernel
theorem dX11_isFlawed_6 : decode cX11_isFlawed 6 = .ok (.istore 5, 2) := by decide +kernel
theorem dX11_isFlawed_8 : decode cX11_isFlawed 8 = .ok (.aload_n 1, 1) := by decide +kernel
theorem dX11_isFlawed_9 : decode cX11_isFlawed 9 = .ok (.getfield 436, 3) := by decide +kernel
theorem dX11_isFlawed_12 : decode cX11_isFlawed 12 = .ok (.iload_n 3, 1) := by decide +kernel
theorem dX11_isFlawed_13 : decode cX11_isFlawed 13 = .ok (.iaload, 1) := by decide +kernel
theorem dX11_isFlawed_14 : decode cX11_isFlawed 14 = .ok (.istore 6, 2) := by decide +kernel
theorem dX11_isFlawed_16 : decode cX11_isFlawed 16 = .ok (.iload 4, 2) := by decide +kernel
theorem dX11_isFlawed_18 : decode cX11_isFlawed 18 = .ok (.iconst 2, 1) := by decide +kernel
theorem dX11_isFlawed_19 : decode cX11_isFlawed 19 = .ok (.if_icmp .ne 16, 3) := by decide +kernel
theorem dX11_isFlawed_22 : decode cX11_isFlawed 22 = .ok (.iload 5, 2) := by decide +kernel
theorem dX11_isFlawed_24 : decode cX11_isFlawed 24 = .ok (.iload 6, 2) := by decide +kernel
theorem dX11_isFlawed_26 : decode cX11_isFlawed 26 = .ok (.if_icmp .ne 7, 3) := by decide +kernel
theorem dX11_isFlawed_29 : decode cX11_isFlawed 29 = .ok (.iconst 1, 1) := by decide +kernel
theorem dX11_isFlawed_30 : decode cX11_isFlawed 30 = .ok (.goto 4, 3) := by decide +kernel
theorem dX11_isFlawed_33 : decode cX11_isFlawed 33 = .ok (.iconst 0, 1) := by decide +kernel
theorem dX11_isFlawed_34 : decode cX11_isFlawed 34 = .ok (.ireturn, 1) := by decide +kernel
theorem dX11_isFlawed_35 : decode cX11_isFlawed 35 = .ok (.aload_n 0, 1) := by decide +kernel
theorem dX11_isFlawed_36 : decode cX11_isFlawed 36 = .ok (.getfield 19, 3) := by decide +kernel
theorem dX11_isFlawed_39 : decode cX11_isFlawed 39 = .ok (.getfield 481, 3) := by decide +kernel
theorem dX11_isFlawed_42 : decode cX11_isFlawed 42 = .ok (.iload_n 3, 1) := by decide +kernel
theorem dX11_isFlawed_43 : decode cX11_isFlawed 43 = .ok (.iload_n 2, 1) := by decide +kernel
theorem dX11_isFlawed_44 : decode cX11_isFlawed 44 = .ok (.invokevirtual 365, 3) := by decide +kernel
theorem dX11_isFlawed_47 : decode cX11_isFlawed 47 = .ok (.ifCond .eq 28, 3) := by decide +kernel
theorem dX11_isFlawed_50 : decode cX11_isFlawed 50 = .ok (.iload 4, 2) := by decide +kernel
theorem dX11_isFlawed_52 : decode cX11_isFlawed 52 = .ok (.ifCond .ne 21, 3) := by decide +kernel
theorem dX11_isFlawed_55 : decode cX11_isFlawed 55 = .ok (.aload_n 0, 1) := by decide +kernel
theorem dX11_isFlawed_56 : decode cX11_isFlawed 56 = .ok (.getfield 27, 3) := by decide +kernel
theorem dX11_isFlawed_59 : decode cX11_isFlawed 59 = .ok (.iload 5, 2) := by decide +kernel
theorem dX11_isFlawed_61 : decode cX11_isFlawed 61 = .ok (.iload 6, 2) := by decide +kernel
theorem dX11_isFlawed_63 : decode cX11_isFlawed 63 = .ok (.invokevirtual 244, 3) := by decide +kernel
theorem dX11_isFlawed_66 : decode cX11_isFlawed 66 = .ok (.ifCond .ne 7, 3) := by decide +kernel
theorem dX11_isFlawed_69 : decode cX11_isFlawed 69 = .ok (.iconst 1, 1) := by decide +kernel
theorem dX11_isFlawed_70 : decode cX11_isFlawed 70 = .ok (.goto 4, 3) := by decide +kernel
theorem dX11_isFlawed_73 : decode cX11_isFlawed 73 = .ok (.iconst 0, 1) := by decide +kernel
theorem dX11_isFlawed_74 : decode cX11_isFlawed 74 = .ok (.ireturn, 1) := by decide +kernel
theorem dX11_isFlawed_75 : decode cX11_isFlawed 75 = .ok (.iload 4, 2) := by decide +kernel
theorem dX11_isFlawed_77 : decode cX11_isFlawed 77 = .ok (.iconst 1, 1) := by decide +kernel
theorem dX11_isFlawed_78 : decode cX11_isFlawed 78 = .ok (.if_icmp .ne 35, 3) := by decide +kernel
theorem dX11_isFlawed_81 : decode cX11_isFlawed 81 = .ok (.aload_n 0, 1) := by decide +kernel
theorem dX11_isFlawed_82 : decode cX11_isFlawed 82 = .ok (.getfield 27, 3) := by decide +kernel
theorem dX11_isFlawed_85 : decode cX11_isFlawed 85 = .ok (.iload 5, 2) := by decide +kernel
theorem dX11_isFlawed_87 : decode cX11_isFlawed 87 = .ok (.iload 6, 2) := by decide +kernel
theorem dX11_isFlawed_89 : decode cX11_isFlawed 89 = .ok (.invokevirtual 244, 3) := by decide +kernel
theorem dX11_isFlawed_92 : decode cX11_isFlawed 92 = .ok (.ifCond .ne 17, 3) := by decide +kernel
theorem dX11_isFlawed_95 : decode cX11_isFlawed 95 = .ok (.aload_n 0, 1) := by decide +kernel
theorem dX11_isFlawed_96 : decode cX11_isFlawed 96 = .ok (.getfield 27, 3) := by decide +kernel
theorem dX11_isFlawed_99 : decode cX11_isFlawed 99 = .ok (.iload 6, 2) := by decide +kernel
theorem dX11_isFlawed_101 : decode cX11_isFlawed 101 = .ok (.iload 5, 2) := by decide +kernel
theorem dX11_isFlawed_103 : decode cX11_isFlawed 103 = .ok (.invokevirtual 244, 3) := by decide +kernel
theorem dX11_isFlawed_106 : decode cX11_isFlawed 106 = .ok (.ifCond .eq 7, 3) := by decide +kernel
theorem dX11_isFlawed_109 : decode cX11_isFlawed 109 = .ok (.iconst 1, 1) := by decide +kernel
theorem dX11_isFlawed_110 : decode cX11_isFlawed 110 = .ok (.goto 4, 3) := by decide +kernel
theorem dX11_isFlawed_113 : decode cX11_isFlawed 113 = .ok (.iconst 0, 1) := by decide +kernel
theorem dX11_isFlawed_114 : decode cX11_isFlawed 114 = .ok (.ireturn, 1) := by decide +kernel
theorem w_X11_isFlawed {sh : gS} {Q : Option gV → gS → gM → Prop} {a1 a2 a3 a4 : Int} {M : gM} (hOK : gOK sh M) (h : ((gsh sh a1 = some (0, 6) ∧ a1 < 758) ∧
    (∃ n2 : Nat, gsh sh (a1 + 22) = some (1, n2) ∧
      ((0 ≤ a2 ∧ a2 < (n2 : Int)) ∧
        ((0 ≤ a3 ∧ a3 < (n2 : Int)) ∧
          (if a4 = 2 then
            (if (M (a1 + 22) a2) = (M (a1 + 22) a3) then
              (Q (some (0, 1)) sh M)
            else
              (Q (some (0, 0)) sh M))
          else
            (∃ v44 : Int, gC (gr 0 0) yX3_has cX3_has 3 (some (.boolean)) [(4, 389), (0, a3), (0, a2)] sh M (gPp sh M (0, v44)) ∧
              (if v44 = 0 then
                (if a4 = 1 then
                  (∃ v89 : Int, gC (gr 1 22) yX1_isAbove cX1_isAbove 3 (some (.boolean)) [(4, 4), (0, (M (a1 + 22) a2)), (0, (M (a1 + 22) a3))] sh M (gPp sh M (0, v89)) ∧
                    (if v89 = 0 then
                      (∃ v103 : Int, gC (gr 1 22) yX1_isAbove cX1_isAbove 3 (some (.boolean)) [(4, 4), (0, (M (a1 + 22) a3)), (0, (M (a1 + 22) a2))] sh M (gPp sh M (0, v103)) ∧
                        (if v103 = 0 then
                          (Q (some (0, 0)) sh M)
                        else
                          (Q (some (0, 1)) sh M)))
                    else
                      (Q (some (0, 1)) sh M)))
                else
                  (Q (some (0, 0)) sh M))
              else
                (if a4 = 0 then
                  (∃ v63 : Int, gC (gr 1 22) yX1_isAbove cX1_isAbove 3 (some (.boolean)) [(4, 4), (0, (M (a1 + 22) a2)), (0, (M (a1 + 22) a3))] sh M (gPp sh M (0, v63)) ∧
                    (if v63 = 0 then
                      (Q (some (0, 1)) sh M)
                    else
                      (Q (some (0, 0)) sh M)))
                else
                  (Q (some (0, 0)) sh M)))))))))) : gC (gr 2 44) yX11_isFlawed cX11_isFlawed 7 (some (.boolean)) [(4, 0), (4, a1), (0, a2), (0, a3), (0, a4)] sh M Q := by
  refine gC_ofA (lv := [_, _, _, _, _, _, _]) (by decide +kernel) (Nat.le_of_ble_eq_true rfl) rfl (fun hMw hav => ?_)
  refine g_aload_n (q0 := 1) (j := 1) rfl dX11_isFlawed_0 rfl ?_
  obtain ⟨g1, h⟩ := h
  refine g_getp (q0 := 4) (b := (a1 + 22)) rfl ff_X11_436 dX11_isFlawed_1 rfl hOK g1.2 g1.1 rfl rfl ?_
  refine g_iload_n (q0 := 5) (j := 2) rfl dX11_isFlawed_4 rfl ?_
  obtain ⟨n2, sn2, h⟩ := h
  obtain ⟨g3, h⟩ := h
  refine g_iald (q0 := 6) rfl dX11_isFlawed_5 sn2 g3.1 g3.2 ?_
  refine g_istore (q0 := 8) (j := 5) (lv2 := [_, _, _, _, _, _, _]) rfl dX11_isFlawed_6 (by decide) rfl rfl ?_
  refine g_aload_n (q0 := 9) (j := 1) rfl dX11_isFlawed_8 rfl ?_
  refine g_getp (q0 := 12) (b := (a1 + 22)) rfl ff_X11_436 dX11_isFlawed_9 rfl hOK g1.2 g1.1 rfl rfl ?_
  refine g_iload_n (q0 := 13) (j := 3) rfl dX11_isFlawed_12 rfl ?_
  obtain ⟨g4, h⟩ := h
  refine g_iald (q0 := 14) rfl dX11_isFlawed_13 sn2 g4.1 g4.2 ?_
  refine g_istore (q0 := 16) (j := 6) (lv2 := [_, _, _, _, _, _, _]) rfl dX11_isFlawed_14 (by decide) rfl rfl ?_
  refine g_iload (q0 := 18) (j := 4) rfl dX11_isFlawed_16 rfl ?_
  refine g_iconst (q0 := 19) rfl dX11_isFlawed_18 (k := ?_)
  refine g_icmp_ne (q0 := 22) (tgt := 35) rfl dX11_isFlawed_19 (by decide) (fun h19 => ?_) (fun h19 => ?_)
  · replace h := wI_neg h19 h
    refine g_aload_n (q0 := 36) (j := 0) rfl dX11_isFlawed_35 rfl ?_
    refine g_getp (q0 := 39) (b := 3) rfl ff_X11_19 dX11_isFlawed_36 rfl hOK (by decide) (sh_0 hOK) rfl (by decide) ?_
    refine g_getp (q0 := 42) (b := 389) rfl ff_X11_481 dX11_isFlawed_39 rfl hOK (by decide) (sh_3 hOK) rfl (by decide) ?_
    refine g_iload_n (q0 := 43) (j := 3) rfl dX11_isFlawed_42 rfl ?_
    refine g_iload_n (q0 := 44) (j := 2) rfl dX11_isFlawed_43 rfl ?_
    obtain ⟨v44, e44, h⟩ := h
    refine g_callVp (as := [_, _]) (rest := []) mt_X3_has mi_X3_has se_X3_has ml_X11_365 dX11_isFlawed_44 (q0 := 47) rfl rfl (sh_389 hOK) rfl rfl e44 rfl ⟨by decide, by decide⟩ (Nat.le_of_ble_eq_true rfl) ⟨Nat.zero_le _, Nat.zero_le _⟩ (fun _ => ?_)
    refine g_if_eq (q0 := 50) (tgt := 75) rfl dX11_isFlawed_47 (by decide) (fun h47 => ?_) (fun h47 => ?_)
    · replace h := wI_pos h47 h
      refine g_iload (q0 := 77) (j := 4) rfl dX11_isFlawed_75 rfl ?_
      refine g_iconst (q0 := 78) rfl dX11_isFlawed_77 (k := ?_)
      refine g_icmp_ne (q0 := 81) (tgt := 113) rfl dX11_isFlawed_78 (by decide) (fun h78 => ?_) (fun h78 => ?_)
      · replace h := wI_neg h78 h
        refine g_iconst (q0 := 114) rfl dX11_isFlawed_113 (k := ?_)
        exact g_zreturn dX11_isFlawed_114 rfl (gnz (Or.inl rfl)) ⟨Nat.zero_le _, Nat.zero_le _⟩ h
      · replace h := wI_pos h78 h
        refine g_aload_n (q0 := 82) (j := 0) rfl dX11_isFlawed_81 rfl ?_
        refine g_getp (q0 := 85) (b := 4) rfl ff_X11_27 dX11_isFlawed_82 rfl hOK (by decide) (sh_0 hOK) rfl (by decide) ?_
        refine g_iload (q0 := 87) (j := 5) rfl dX11_isFlawed_85 rfl ?_
        refine g_iload (q0 := 89) (j := 6) rfl dX11_isFlawed_87 rfl ?_
        obtain ⟨v89, e89, h⟩ := h
        refine g_callVp (as := [_, _]) (rest := []) mt_X1_isAbove mi_X1_isAbove se_X1_isAbove ml_X11_244 dX11_isFlawed_89 (q0 := 92) rfl rfl (sh_4 hOK) rfl rfl e89 rfl ⟨by decide, by decide⟩ (Nat.le_of_ble_eq_true rfl) ⟨Nat.zero_le _, Nat.zero_le _⟩ (fun _ => ?_)
        refine g_if_ne (q0 := 95) (tgt := 109) rfl dX11_isFlawed_92 (by decide) (fun h92 => ?_) (fun h92 => ?_)
        · replace h := wI_neg h92 h
          refine g_iconst (q0 := 110) rfl dX11_isFlawed_109 (k := ?_)
          refine g_goto (tgt := 114) dX11_isFlawed_110 (by decide) ?_
          exact g_zreturn dX11_isFlawed_114 rfl (gnz (Or.inr rfl)) ⟨Nat.zero_le _, Nat.zero_le _⟩ h
        · replace h := wI_pos h92 h
          refine g_aload_n (q0 := 96) (j := 0) rfl dX11_isFlawed_95 rfl ?_
          refine g_getp (q0 := 99) (b := 4) rfl ff_X11_27 dX11_isFlawed_96 rfl hOK (by decide) (sh_0 hOK) rfl (by decide) ?_
          refine g_iload (q0 := 101) (j := 6) rfl dX11_isFlawed_99 rfl ?_
          refine g_iload (q0 := 103) (j := 5) rfl dX11_isFlawed_101 rfl ?_
          obtain ⟨v103, e103, h⟩ := h
          refine g_callVp (as := [_, _]) (rest := []) mt_X1_isAbove mi_X1_isAbove se_X1_isAbove ml_X11_244 dX11_isFlawed_103 (q0 := 106) rfl rfl (sh_4 hOK) rfl rfl e103 rfl ⟨by decide, by decide⟩ (Nat.le_of_ble_eq_true rfl) ⟨Nat.zero_le _, Nat.zero_le _⟩ (fun _ => ?_)
          refine g_if_eq (q0 := 109) (tgt := 113) rfl dX11_isFlawed_106 (by decide) (fun h106 => ?_) (fun h106 => ?_)
          · replace h := wI_pos h106 h
            refine g_iconst (q0 := 114) rfl dX11_isFlawed_113 (k := ?_)
            exact g_zreturn dX11_isFlawed_114 rfl (gnz (Or.inl rfl)) ⟨Nat.zero_le _, Nat.zero_le _⟩ h
          · replace h := wI_neg h106 h
            refine g_iconst (q0 := 110) rfl dX11_isFlawed_109 (k := ?_)
            refine g_goto (tgt := 114) dX11_isFlawed_110 (by decide) ?_
            exact g_zreturn dX11_isFlawed_114 rfl (gnz (Or.inr rfl)) ⟨Nat.zero_le _, Nat.zero_le _⟩ h
    · replace h := wI_neg h47 h
      refine g_iload (q0 := 52) (j := 4) rfl dX11_isFlawed_50 rfl ?_
      refine g_if_ne (q0 := 55) (tgt := 73) rfl dX11_isFlawed_52 (by decide) (fun h52 => ?_) (fun h52 => ?_)
      · replace h := wI_neg h52 h
        refine g_iconst (q0 := 74) rfl dX11_isFlawed_73 (k := ?_)
        exact g_zreturn dX11_isFlawed_74 rfl (gnz (Or.inl rfl)) ⟨Nat.zero_le _, Nat.zero_le _⟩ h
      · replace h := wI_pos h52 h
        refine g_aload_n (q0 := 56) (j := 0) rfl dX11_isFlawed_55 rfl ?_
        refine g_getp (q0 := 59) (b := 4) rfl ff_X11_27 dX11_isFlawed_56 rfl hOK (by decide) (sh_0 hOK) rfl (by decide) ?_
        refine g_iload (q0 := 61) (j := 5) rfl dX11_isFlawed_59 rfl ?_
        refine g_iload (q0 := 63) (j := 6) rfl dX11_isFlawed_61 rfl ?_
        obtain ⟨v63, e63, h⟩ := h
        refine g_callVp (as := [_, _]) (rest := []) mt_X1_isAbove mi_X1_isAbove se_X1_isAbove ml_X11_244 dX11_isFlawed_63 (q0 := 66) rfl rfl (sh_4 hOK) rfl rfl e63 rfl ⟨by decide, by decide⟩ (Nat.le_of_ble_eq_true rfl) ⟨Nat.zero_le _, Nat.zero_le _⟩ (fun _ => ?_)
        refine g_if_ne (q0 := 69) (tgt := 73) rfl dX11_isFlawed_66 (by decide) (fun h66 => ?_) (fun h66 => ?_)
        · replace h := wI_neg h66 h
          refine g_iconst (q0 := 74) rfl dX11_isFlawed_73 (k := ?_)
          exact g_zreturn dX11_isFlawed_74 rfl (gnz (Or.inl rfl)) ⟨Nat.zero_le _, Nat.zero_le _⟩ h
        · replace h := wI_pos h66 h
          refine g_iconst (q0 := 70) rfl dX11_isFlawed_69 (k := ?_)
          refine g_goto (tgt := 74) dX11_isFlawed_70 (by decide) ?_
          exact g_zreturn dX11_isFlawed_74 rfl (gnz (Or.inr rfl)) ⟨Nat.zero_le _, Nat.zero_le _⟩ h
  · replace h := wI_pos h19 h
    refine g_iload (q0 := 24) (j := 5) rfl dX11_isFlawed_22 rfl ?_
    refine g_iload (q0 := 26) (j := 6) rfl dX11_isFlawed_24 rfl ?_
    refine g_icmp_ne (q0 := 29) (tgt := 33) rfl dX11_isFlawed_26 (by decide) (fun h26 => ?_) (fun h26 => ?_)
    · replace h := wI_neg h26 h
      refine g_iconst (q0 := 34) rfl dX11_isFlawed_33 (k := ?_)
      exact g_zreturn dX11_isFlawed_34 rfl (gnz (Or.inl rfl)) ⟨Nat.zero_le _, Nat.zero_le _⟩ h
    · replace h := wI_pos h26 h
      refine g_iconst (q0 := 30) rfl dX11_isFlawed_29 (k := ?_)
      refine g_goto (tgt := 34) dX11_isFlawed_30 (by decide) ?_
      exact g_zreturn dX11_isFlawed_34 rfl (gnz (Or.inr rfl)) ⟨Nat.zero_le _, Nat.zero_le _⟩ h
-- ==== X11_refIs
theorem dX11_refIs_0 : decode cX11_refIs 0 = .ok (.iload_n 1, 1) := by decide +kernel
theorem dX11_refIs_1 : decode cX11_refIs 1 = .ok (.invokestatic 166, 3) := by decide +kernel
theorem dX11_refIs_4 : decode cX11_refIs 4 = .ok (.ifCond .eq 22, 3) := by decide +kernel
theorem dX11_refIs_7 : decode cX11_refIs 7 = .ok (.iload_n 2, 1) := by decide +kernel
theorem dX11_refIs_8 : decode cX11_refIs 8 = .ok (.ifCond .lt 18, 3) := by decide +kernel
theorem dX11_refIs_11 : decode cX11_refIs 11 = .ok (.iload_n 2, 1) := by decide +kernel
theorem dX11_refIs_12 : decode cX11_refIs 12 = .ok (.bipush 8, 2) := by decide +kernel
theorem dX11_refIs_14 : decode cX11_refIs 14 = .ok (.if_icmp .ge 12, 3) := by decide +kernel
theorem dX11_refIs_17 : decode cX11_refIs 17 = .ok (.iload_n 3, 1) := by decide +kernel
theorem dX11_refIs_18 : decode cX11_refIs 18 = .ok (.ifCond .lt 8, 3) := by decide +kernel
theorem dX11_refIs_21 : decode cX11_refIs 21 = .ok (.iload_n 3, 1) := by decide +kernel
theorem dX11_refIs_22 : decode cX11_refIs 22 = .ok (.iconst 3, 1) := by decide +kernel
theorem dX11_refIs_23 : decode cX11_refIs 23 = .ok (.if_icmp .le 5, 3) := by decide +kernel
theorem dX11_refIs_26 : decode cX11_refIs 26 = .ok (.iconst (-1), 1) := by decide +kernel
theorem dX11_refIs_27 : decode cX11_refIs 27 = .ok (.ireturn, 1) := by decide +kernel
theorem dX11_refIs_28 : decode cX11_refIs 28 = .ok (.aload_n 0, 1) := by decide +kernel
theorem dX11_refIs_29 : decode cX11_refIs 29 = .ok (.getfield 37, 3) := by decide +kernel
theorem dX11_refIs_32 : decode cX11_refIs 32 = .ok (.iload_n 1, 1) := by decide +kernel
theorem dX11_refIs_33 : decode cX11_refIs 33 = .ok (.aaload, 1) := by decide +kernel
theorem dX11_refIs_34 : decode cX11_refIs 34 = .ok (.astore 4, 2) := by decide +kernel
theorem dX11_refIs_36 : decode cX11_refIs 36 = .ok (.iload_n 2, 1) := by decide +kernel
theorem dX11_refIs_37 : decode cX11_refIs 37 = .ok (.aload 4, 2) := by decide +kernel
theorem dX11_refIs_39 : decode cX11_refIs 39 = .ok (.getfield 180, 3) := by decide +kernel
theorem dX11_refIs_42 : decode cX11_refIs 42 = .ok (.if_icmp .lt 6, 3) := by decide +kernel
theorem dX11_refIs_45 : decode cX11_refIs 45 = .ok (.bipush (-4), 2) := by decide +kernel
theorem dX11_refIs_47 : decode cX11_refIs 47 = .ok (.ireturn, 1) := by decide +kernel
theorem dX11_refIs_48 : decode cX11_refIs 48 = .ok (.iload_n 3, 1) := by decide +kernel
theorem dX11_refIs_49 : decode cX11_refIs 49 = .ok (.tableswitch 51 0 2 #[27, 35, 43], 27) := by decide +kernel
theorem dX11_refIs_76 : decode cX11_refIs 76 = .ok (.aload 4, 2) := by decide +kernel
theorem dX11_refIs_78 : decode cX11_refIs 78 = .ok (.getfield 232, 3) := by decide +kernel
theorem dX11_refIs_81 : decode cX11_refIs 81 = .ok (.iload_n 2, 1) := by decide +kernel
theorem dX11_refIs_82 : decode cX11_refIs 82 = .ok (.iaload, 1) := by decide +kernel
theorem dX11_refIs_83 : decode cX11_refIs 83 = .ok (.ireturn, 1) := by decide +kernel
theorem dX11_refIs_84 : decode cX11_refIs 84 = .ok (.aload 4, 2) := by decide +kernel
theorem dX11_refIs_86 : decode cX11_refIs 86 = .ok (.getfield 238, 3) := by decide +kernel
theorem dX11_refIs_89 : decode cX11_refIs 89 = .ok (.iload_n 2, 1) := by decide +kernel
theorem dX11_refIs_90 : decode cX11_refIs 90 = .ok (.iaload, 1) := by decide +kernel
theorem dX11_refIs_91 : decode cX11_refIs 91 = .ok (.ireturn, 1) := by decide +kernel
theorem dX11_refIs_92 : decode cX11_refIs 92 = .ok (.aload 4, 2) := by decide +kernel
theorem dX11_refIs_94 : decode cX11_refIs 94 = .ok (.getfield 230, 3) := by decide +kernel
theorem dX11_refIs_97 : decode cX11_refIs 97 = .ok (.iload_n 2, 1) := by decide +kernel
theorem dX11_refIs_98 : decode cX11_refIs 98 = .ok (.iaload, 1) := by decide +kernel
theorem dX11_refIs_99 : decode cX11_refIs 99 = .ok (.ireturn, 1) := by decide +kernel
theorem dX11_refIs_100 : decode cX11_refIs 100 = .ok (.aload 4, 2) := by decide +kernel
theorem dX11_refIs_102 : decode cX11_refIs 102 = .ok (.getfield 484, 3) := by decide +kernel
theorem dX11_refIs_105 : decode cX11_refIs 105 = .ok (.iload_n 2, 1) := by decide +kernel
theorem dX11_refIs_106 : decode cX11_refIs 106 = .ok (.iaload, 1) := by decide +kernel
theorem dX11_refIs_107 : decode cX11_refIs 107 = .ok (.ifCond .ge 8, 3) := by decide +kernel
theorem dX11_refIs_110 : decode cX11_refIs 110 = .ok (.bipush (-2), 2) := by decide +kernel
theorem dX11_refIs_112 : decode cX11_refIs 112 = .ok (.goto 10, 3) := by decide +kernel
theorem dX11_refIs_115 : decode cX11_refIs 115 = .ok (.aload 4, 2) := by decide +kernel
theorem dX11_refIs_117 : decode cX11_refIs 117 = .ok (.getfield 484, 3) := by decide +kernel
theorem dX11_refIs_120 : decode cX11_refIs 120 = .ok (.iload_n 2, 1) := by decide +kernel
theorem dX11_refIs_121 : decode cX11_refIs 121 = .ok (.iaload, 1) := by decide +kernel
theorem dX11_refIs_122 : decode cX11_refIs 122 = .ok (.ireturn, 1) := by decide +kernel
theorem w_X11_refIs {sh : gS} {Q : Option gV → gS → gM → Prop} {a1 a2 a3 : Int} {M : gM} (hOK : gOK sh M) (h : (∃ v1 : Int, gC (gr 0 0) yX11_isHistory cX11_isHistory 1 (some (.boolean)) [(0, a1)] sh M (gPp sh M (0, v1)) ∧
    (if v1 = 0 then
      (Q (some (0, -1)) sh M)
    else
      (if a2 < 0 then
        (Q (some (0, -1)) sh M)
      else
        (if a2 < 8 then
          (if a3 < 0 then
            (Q (some (0, -1)) sh M)
          else
            (if (3 : Int) < a3 then
              (Q (some (0, -1)) sh M)
            else
              ((0 ≤ a1 ∧ a1 < 4) ∧
                ((gsh sh (479 + 10 * a1) = some (0, 8) ∧ (479 + 10 * a1) < 758) ∧
                  (if a2 < (M (479 + 10 * a1) 0) then
                    (if a3 = 0 then
                      (∃ n9 : Nat, gsh sh ((479 + 10 * a1) + 1) = some (1, n9) ∧
                        ((0 ≤ a2 ∧ a2 < (n9 : Int)) ∧
                          (Q (some (0, (M ((479 + 10 * a1) + 1) a2))) sh M)))
                    else
                      (if a3 = 1 then
                        (∃ n7 : Nat, gsh sh ((479 + 10 * a1) + 2) = some (1, n7) ∧
                          ((0 ≤ a2 ∧ a2 < (n7 : Int)) ∧
                            (Q (some (0, (M ((479 + 10 * a1) + 2) a2))) sh M)))
                      else
                        (if a3 = 2 then
                          (∃ n5 : Nat, gsh sh ((479 + 10 * a1) + 3) = some (1, n5) ∧
                            ((0 ≤ a2 ∧ a2 < (n5 : Int)) ∧
                              (Q (some (0, (M ((479 + 10 * a1) + 3) a2))) sh M)))
                        else
                          (∃ n3 : Nat, gsh sh ((479 + 10 * a1) + 4) = some (1, n3) ∧
                            ((0 ≤ a2 ∧ a2 < (n3 : Int)) ∧
                              (if (M ((479 + 10 * a1) + 4) a2) < 0 then
                                (Q (some (0, -2)) sh M)
                              else
                                (Q (some (0, (M ((479 + 10 * a1) + 4) a2))) sh M)))))))
                  else
                    (Q (some (0, -4)) sh M))))))
        else
          (Q (some (0, -1)) sh M)))))) : gC (gr 1 20) yX11_refIs cX11_refIs 5 (some (.int)) [(4, 0), (0, a1), (0, a2), (0, a3)] sh M Q := by
  refine gC_ofA (lv := [_, _, _, _, _]) (by decide +kernel) (Nat.le_of_ble_eq_true rfl) rfl (fun hMw hav => ?_)
  refine g_iload_n (q0 := 1) (j := 1) rfl dX11_refIs_0 rfl ?_
  obtain ⟨v1, e1, h⟩ := h
  refine g_callSp (as := [_]) (rest := []) mt_X11_isHistory ms_X11_isHistory ml_X11_166 dX11_refIs_1 (q0 := 4) rfl rfl e1 rfl ⟨by decide, by decide⟩ (Nat.le_of_ble_eq_true rfl) ⟨Nat.zero_le _, Nat.zero_le _⟩ (fun _ => ?_)
  refine g_if_eq (q0 := 7) (tgt := 26) rfl dX11_refIs_4 (by decide) (fun h4 => ?_) (fun h4 => ?_)
  · replace h := wI_pos h4 h
    refine g_iconst (q0 := 27) rfl dX11_refIs_26 (k := ?_)
    exact g_ireturn dX11_refIs_27 rfl ⟨Nat.zero_le _, Nat.zero_le _⟩ h
  · replace h := wI_neg h4 h
    refine g_iload_n (q0 := 8) (j := 2) rfl dX11_refIs_7 rfl ?_
    refine g_if_lt (q0 := 11) (tgt := 26) rfl dX11_refIs_8 (by decide) (fun h8 => ?_) (fun h8 => ?_)
    · replace h := wI_pos h8 h
      refine g_iconst (q0 := 27) rfl dX11_refIs_26 (k := ?_)
      exact g_ireturn dX11_refIs_27 rfl ⟨Nat.zero_le _, Nat.zero_le _⟩ h
    · replace h := wI_neg (Int.not_lt.mpr h8) h
      refine g_iload_n (q0 := 12) (j := 2) rfl dX11_refIs_11 rfl ?_
      refine g_bipush (q0 := 14) rfl dX11_refIs_12 (k := ?_)
      refine g_icmp_ge (q0 := 17) (tgt := 26) rfl dX11_refIs_14 (by decide) (fun h14 => ?_) (fun h14 => ?_)
      · replace h := wI_neg (Int.not_lt.mpr h14) h
        refine g_iconst (q0 := 27) rfl dX11_refIs_26 (k := ?_)
        exact g_ireturn dX11_refIs_27 rfl ⟨Nat.zero_le _, Nat.zero_le _⟩ h
      · replace h := wI_pos h14 h
        refine g_iload_n (q0 := 18) (j := 3) rfl dX11_refIs_17 rfl ?_
        refine g_if_lt (q0 := 21) (tgt := 26) rfl dX11_refIs_18 (by decide) (fun h18 => ?_) (fun h18 => ?_)
        · replace h := wI_pos h18 h
          refine g_iconst (q0 := 27) rfl dX11_refIs_26 (k := ?_)
          exact g_ireturn dX11_refIs_27 rfl ⟨Nat.zero_le _, Nat.zero_le _⟩ h
        · replace h := wI_neg (Int.not_lt.mpr h18) h
          refine g_iload_n (q0 := 22) (j := 3) rfl dX11_refIs_21 rfl ?_
          refine g_iconst (q0 := 23) rfl dX11_refIs_22 (k := ?_)
          refine g_icmp_le (q0 := 26) (tgt := 28) rfl dX11_refIs_23 (by decide) (fun h23 => ?_) (fun h23 => ?_)
          · replace h := wI_neg (Int.not_lt.mpr h23) h
            refine g_aload_n (q0 := 29) (j := 0) rfl dX11_refIs_28 rfl ?_
            refine g_getp (q0 := 32) (b := 408) rfl ff_X11_37 dX11_refIs_29 rfl hOK (by decide) (sh_0 hOK) rfl (by decide) ?_
            refine g_iload_n (q0 := 33) (j := 1) rfl dX11_refIs_32 rfl ?_
            obtain ⟨g1, h⟩ := h
            refine g_aald (q0 := 34) (q := 1) rfl dX11_refIs_33 (sh_408 hOK) rfl g1.1 g1.2 ?_
            rw [(hOK.2.2.2 _ g1.1 g1.2).1]
            refine g_astore (q0 := 36) (j := 4) (lv2 := [_, _, _, _, _]) rfl dX11_refIs_34 (by decide) rfl rfl ?_
            refine g_iload_n (q0 := 37) (j := 2) rfl dX11_refIs_36 rfl ?_
            refine g_aload (q0 := 39) (j := 4) rfl dX11_refIs_37 rfl ?_
            obtain ⟨g2, h⟩ := h
            refine g_getf (q0 := 42) (t := 0) (fi := 0) rfl rfl ff_X11_180 dX11_refIs_39 rfl g2.1 ?_
            refine g_icmp_lt (q0 := 45) (tgt := 48) rfl dX11_refIs_42 (by decide) (fun h42 => ?_) (fun h42 => ?_)
            · replace h := wI_pos h42 h
              refine g_iload_n (q0 := 49) (j := 3) rfl dX11_refIs_48 rfl ?_
              by_cases hs0 : a3 = 0
              · replace h := wI_pos hs0 h
                refine g_tabIn (off := 27) (tgt := 76) dX11_refIs_49 (by omega) (by omega) (by rw [hs0]; rfl) (by decide) ?_
                refine g_aload (q0 := 78) (j := 4) rfl dX11_refIs_76 rfl ?_
                refine g_getp (q0 := 81) (b := ((479 + 10 * a1) + 1)) rfl ff_X11_232 dX11_refIs_78 rfl hOK g2.2 g2.1 rfl rfl ?_
                refine g_iload_n (q0 := 82) (j := 2) rfl dX11_refIs_81 rfl ?_
                obtain ⟨n9, sn9, h⟩ := h
                obtain ⟨g10, h⟩ := h
                refine g_iald (q0 := 83) rfl dX11_refIs_82 sn9 g10.1 g10.2 ?_
                exact g_ireturn dX11_refIs_83 rfl ⟨Nat.zero_le _, Nat.zero_le _⟩ h
              · replace h := wI_neg hs0 h
                by_cases hs1 : a3 = 1
                · replace h := wI_pos hs1 h
                  refine g_tabIn (off := 35) (tgt := 84) dX11_refIs_49 (by omega) (by omega) (by rw [hs1]; rfl) (by decide) ?_
                  refine g_aload (q0 := 86) (j := 4) rfl dX11_refIs_84 rfl ?_
                  refine g_getp (q0 := 89) (b := ((479 + 10 * a1) + 2)) rfl ff_X11_238 dX11_refIs_86 rfl hOK g2.2 g2.1 rfl rfl ?_
                  refine g_iload_n (q0 := 90) (j := 2) rfl dX11_refIs_89 rfl ?_
                  obtain ⟨n7, sn7, h⟩ := h
                  obtain ⟨g8, h⟩ := h
                  refine g_iald (q0 := 91) rfl dX11_refIs_90 sn7 g8.1 g8.2 ?_
                  exact g_ireturn dX11_refIs_91 rfl ⟨Nat.zero_le _, Nat.zero_le _⟩ h
                · replace h := wI_neg hs1 h
                  by_cases hs2 : a3 = 2
                  · replace h := wI_pos hs2 h
                    refine g_tabIn (off := 43) (tgt := 92) dX11_refIs_49 (by omega) (by omega) (by rw [hs2]; rfl) (by decide) ?_
                    refine g_aload (q0 := 94) (j := 4) rfl dX11_refIs_92 rfl ?_
                    refine g_getp (q0 := 97) (b := ((479 + 10 * a1) + 3)) rfl ff_X11_230 dX11_refIs_94 rfl hOK g2.2 g2.1 rfl rfl ?_
                    refine g_iload_n (q0 := 98) (j := 2) rfl dX11_refIs_97 rfl ?_
                    obtain ⟨n5, sn5, h⟩ := h
                    obtain ⟨g6, h⟩ := h
                    refine g_iald (q0 := 99) rfl dX11_refIs_98 sn5 g6.1 g6.2 ?_
                    exact g_ireturn dX11_refIs_99 rfl ⟨Nat.zero_le _, Nat.zero_le _⟩ h
                  · replace h := wI_neg hs2 h
                    refine g_tabOut (tgt := 100) dX11_refIs_49 (by omega) (by decide) ?_
                    refine g_aload (q0 := 102) (j := 4) rfl dX11_refIs_100 rfl ?_
                    refine g_getp (q0 := 105) (b := ((479 + 10 * a1) + 4)) rfl ff_X11_484 dX11_refIs_102 rfl hOK g2.2 g2.1 rfl rfl ?_
                    refine g_iload_n (q0 := 106) (j := 2) rfl dX11_refIs_105 rfl ?_
                    obtain ⟨n3, sn3, h⟩ := h
                    obtain ⟨g4, h⟩ := h
                    refine g_iald (q0 := 107) rfl dX11_refIs_106 sn3 g4.1 g4.2 ?_
                    refine g_if_ge (q0 := 110) (tgt := 115) rfl dX11_refIs_107 (by decide) (fun h107 => ?_) (fun h107 => ?_)
                    · replace h := wI_neg (Int.not_lt.mpr h107) h
                      refine g_aload (q0 := 117) (j := 4) rfl dX11_refIs_115 rfl ?_
                      refine g_getp (q0 := 120) (b := ((479 + 10 * a1) + 4)) rfl ff_X11_484 dX11_refIs_117 rfl hOK g2.2 g2.1 rfl rfl ?_
                      refine g_iload_n (q0 := 121) (j := 2) rfl dX11_refIs_120 rfl ?_
                      refine g_iald (q0 := 122) rfl dX11_refIs_121 sn3 g4.1 g4.2 ?_
                      exact g_ireturn dX11_refIs_122 rfl ⟨Nat.zero_le _, Nat.zero_le _⟩ h
                    · replace h := wI_pos h107 h
                      refine g_bipush (q0 := 112) rfl dX11_refIs_110 (k := ?_)
                      refine g_goto (tgt := 122) dX11_refIs_112 (by decide) ?_
                      exact g_ireturn dX11_refIs_122 rfl ⟨Nat.zero_le _, Nat.zero_le _⟩ h
            · replace h := wI_neg (Int.not_lt.mpr h42) h
              refine g_bipush (q0 := 47) rfl dX11_refIs_45 (k := ?_)
              exact g_ireturn dX11_refIs_47 rfl ⟨Nat.zero_le _, Nat.zero_le _⟩ h
          · replace h := wI_pos h23 h
            refine g_iconst (q0 := 27) rfl dX11_refIs_26 (k := ?_)
            exact g_ireturn dX11_refIs_27 rfl ⟨Nat.zero_le _, Nat.zero_le _⟩ h
-- ==== X11_historyIs
theorem dX11_historyIs_0 : decode cX11_historyIs 0 = .ok (.iload_n 1, 1) := by decide +kernel
theorem dX11_historyIs_1 : decode cX11_historyIs 1 = .ok (.invokestatic 166, 3) := by decide +kernel
theorem dX11_historyIs_4 : decode cX11_historyIs 4 = .ok (.ifCond .eq 13, 3) := by decide +kernel
theorem dX11_historyIs_7 : decode cX11_historyIs 7 = .ok (.iload_n 2, 1) := by decide +kernel
theorem dX11_historyIs_8 : decode cX11_historyIs 8 = .ok (.ifCond .lt 9, 3) := by decide +kernel
theorem dX11_historyIs_11 : decode cX11_historyIs 11 = .ok (.iload_n 2, 1) := by decide +kernel
theorem dX11_historyIs_12 : decode cX11_historyIs 12 = .ok (.bipush 6, 2) := by decide +kernel
theorem dX11_historyIs_14 : decode cX11_historyIs 14 = .ok (.if_icmp .le 5, 3) := by decide +kernel
theorem dX11_historyIs_17 : decode cX11_historyIs 17 = .ok (.iconst (-1), 1) := by decide +kernel
theorem dX11_historyIs_18 : decode cX11_historyIs 18 = .ok (.ireturn, 1) := by decide +kernel
theorem dX11_historyIs_19 : decode cX11_historyIs 19 = .ok (.iload_n 2, 1) := by decide +kernel
theorem dX11_historyIs_20 : decode cX11_historyIs 20 = .ok (.ifCond .ne 13, 3) := by decide +kernel
theorem dX11_historyIs_23 : decode cX11_historyIs 23 = .ok (.aload_n 0, 1) := by decide +kernel
theorem dX11_historyIs_24 : decode cX11_historyIs 24 = .ok (.getfield 37, 3) := by decide +kernel
theorem dX11_historyIs_27 : decode cX11_historyIs 27 = .ok (.iload_n 1, 1) := by decide +kernel
theorem dX11_historyIs_28 : decode cX11_historyIs 28 = .ok (.aaload, 1) := by decide +kernel
theorem dX11_historyIs_29 : decode cX11_historyIs 29 = .ok (.getfield 180, 3) := by decide +kernel
theorem dX11_historyIs_32 : decode cX11_historyIs 32 = .ok (.ireturn, 1) := by decide +kernel
theorem dX11_historyIs_33 : decode cX11_historyIs 33 = .ok (.aload_n 0, 1) := by decide +kernel
theorem dX11_historyIs_34 : decode cX11_historyIs 34 = .ok (.getfield 27, 3) := by decide +kernel
theorem dX11_historyIs_37 : decode cX11_historyIs 37 = .ok (.aload_n 0, 1) := by decide +kernel
theorem dX11_historyIs_38 : decode cX11_historyIs 38 = .ok (.getfield 37, 3) := by decide +kernel
theorem dX11_historyIs_41 : decode cX11_historyIs 41 = .ok (.iload_n 1, 1) := by decide +kernel
theorem dX11_historyIs_42 : decode cX11_historyIs 42 = .ok (.aaload, 1) := by decide +kernel
theorem dX11_historyIs_43 : decode cX11_historyIs 43 = .ok (.aload_n 0, 1) := by decide +kernel
theorem dX11_historyIs_44 : decode cX11_historyIs 44 = .ok (.getfield 74, 3) := by decide +kernel
theorem dX11_historyIs_47 : decode cX11_historyIs 47 = .ok (.iconst 0, 1) := by decide +kernel
theorem dX11_historyIs_48 : decode cX11_historyIs 48 = .ok (.invokevirtual 361, 3) := by decide +kernel
theorem dX11_historyIs_51 : decode cX11_historyIs 51 = .ok (.iload_n 2, 1) := by decide +kernel
theorem dX11_historyIs_52 : decode cX11_historyIs 52 = .ok (.tableswitch 64 1 6 #[40, 64, 64, 49, 54, 59], 40) := by decide +kernel
theorem dX11_historyIs_92 : decode cX11_historyIs 92 = .ok (.aload_n 0, 1) := by decide +kernel
theorem dX11_historyIs_93 : decode cX11_historyIs 93 = .ok (.getfield 74, 3) := by decide +kernel
theorem dX11_historyIs_96 : decode cX11_historyIs 96 = .ok (.iconst 0, 1) := by decide +kernel
theorem dX11_historyIs_97 : decode cX11_historyIs 97 = .ok (.invokevirtual 307, 3) := by decide +kernel
theorem dX11_historyIs_100 : decode cX11_historyIs 100 = .ok (.ireturn, 1) := by decide +kernel
theorem dX11_historyIs_101 : decode cX11_historyIs 101 = .ok (.aload_n 0, 1) := by decide +kernel
theorem dX11_historyIs_102 : decode cX11_historyIs 102 = .ok (.invokevirtual 487, 3) := by decide +kernel
theorem dX11_historyIs_105 : decode cX11_historyIs 105 = .ok (.ireturn, 1) := by decide +kernel
theorem dX11_historyIs_106 : decode cX11_historyIs 106 = .ok (.aload_n 0, 1) := by decide +kernel
theorem dX11_historyIs_107 : decode cX11_historyIs 107 = .ok (.invokevirtual 490, 3) := by decide +kernel
theorem dX11_historyIs_110 : decode cX11_historyIs 110 = .ok (.ireturn, 1) := by decide +kernel
theorem dX11_historyIs_111 : decode cX11_historyIs 111 = .ok (.aload_n 0, 1) := by decide +kernel
theorem dX11_historyIs_112 : decode cX11_historyIs 112 = .ok (.invokevirtual 493, 3) := by decide +kernel
theorem dX11_historyIs_115 : decode cX11_historyIs 115 = .ok (.ireturn, 1) := by decide +kernel
theorem dX11_historyIs_116 : decode cX11_historyIs 116 = .ok (.aload_n 0, 1) := by decide +kernel
theorem dX11_historyIs_117 : decode cX11_historyIs 117 = .ok (.iload_n 2, 1) := by decide +kernel
theorem dX11_historyIs_118 : decode cX11_historyIs 118 = .ok (.iconst 3, 1) := by decide +kernel
theorem dX11_historyIs_119 : decode cX11_historyIs 119 = .ok (.if_icmp .ne 7, 3) := by decide +kernel
theorem dX11_historyIs_122 : decode cX11_historyIs 122 = .ok (.iconst 1, 1) := by decide +kernel
theorem dX11_historyIs_123 : decode cX11_historyIs 123 = .ok (.goto 4, 3) := by decide +kernel
theorem dX11_historyIs_126 : decode cX11_historyIs 126 = .ok (.iconst 0, 1) := by decide +kernel
theorem dX11_historyIs_127 : decode cX11_historyIs 127 = .ok (.invokevirtual 496, 3) := by decide +kernel
theorem dX11_historyIs_130 : decode cX11_historyIs 130 = .ok (.ireturn, 1) := by decide +kernel
theorem w_X11_historyIs {sh : gS} {Q : Option gV → gS → gM → Prop} {a1 a2 : Int} {M : gM} (hOK : gOK sh M) (h : (∃ v1 : Int, gC (gr 0 0) yX11_isHistory cX11_isHistory 1 (some (.boolean)) [(0, a1)] sh M (gPp sh M (0, v1)) ∧
    (if v1 = 0 then
      (Q (some (0, -1)) sh M)
    else
      (if a2 < 0 then
        (Q (some (0, -1)) sh M)
      else
        (if (6 : Int) < a2 then
          (Q (some (0, -1)) sh M)
        else
          (if a2 = 0 then
            ((0 ≤ a1 ∧ a1 < 4) ∧
              ((gsh sh (479 + 10 * a1) = some (0, 8) ∧ (479 + 10 * a1) < 758) ∧
                (Q (some (0, (M (479 + 10 * a1) 0))) sh M)))
          else
            ((0 ≤ a1 ∧ a1 < 4) ∧
              (∃ P48 : Option gV → gM → Prop, gC (gr 1 23) yX1_markHistory cX1_markHistory 5 none [(4, 4), (4, (479 + 10 * a1)), (4, 470), (0, 0)] sh M (gPm sh P48) ∧ ∀ (r48 : Option gV) (M48 : gM), P48 r48 M48 → r48 = none ∧ gOK sh M48 ∧
                (if a2 = 1 then
                  (∃ v97 : Int, gC (gr 1 21) yX3_size cX3_size 2 (some (.int)) [(4, 470), (0, 0)] sh M48 (gPp sh M48 (0, v97)) ∧
                    (Q (some (0, v97)) sh M48))
                else
                  (if a2 = 2 then
                    (if a2 = 3 then
                      (∃ v127 : Int, gC (gr 1 22) yX11_withParents cX11_withParents 5 (some (.int)) [(4, 0), (0, 1)] sh M48 (gPp sh M48 (0, v127)) ∧
                        (Q (some (0, v127)) sh M48))
                    else
                      (∃ v127 : Int, gC (gr 1 22) yX11_withParents cX11_withParents 5 (some (.int)) [(4, 0), (0, 0)] sh M48 (gPp sh M48 (0, v127)) ∧
                        (Q (some (0, v127)) sh M48)))
                  else
                    (if a2 = 3 then
                      (if a2 = 3 then
                        (∃ v127 : Int, gC (gr 1 22) yX11_withParents cX11_withParents 5 (some (.int)) [(4, 0), (0, 1)] sh M48 (gPp sh M48 (0, v127)) ∧
                          (Q (some (0, v127)) sh M48))
                      else
                        (∃ v127 : Int, gC (gr 1 22) yX11_withParents cX11_withParents 5 (some (.int)) [(4, 0), (0, 0)] sh M48 (gPp sh M48 (0, v127)) ∧
                          (Q (some (0, v127)) sh M48)))
                    else
                      (if a2 = 4 then
                        (∃ P102 : Option gV → gM → Prop, gC (gr 2 44) yX11_childless cX11_childless 3 (some (.int)) [(4, 0)] sh M48 (gPm sh P102) ∧ ∀ (r102 : Option gV) (M102 : gM), P102 r102 M102 → ∃ v102 : Int, r102 = some (0, v102) ∧ gOK sh M102 ∧
                          (Q (some (0, v102)) sh M102))
                      else
                        (if a2 = 5 then
                          (∃ v107 : Int, gC (gr 1 22) yX11_greatestGeneration cX11_greatestGeneration 3 (some (.int)) [(4, 0)] sh M48 (gPp sh M48 (0, v107)) ∧
                            (Q (some (0, v107)) sh M48))
                        else
                          (if a2 = 6 then
                            (∃ P112 : Option gV → gM → Prop, gC (gr 2 42) yX11_unlikeTrees cX11_unlikeTrees 2 (some (.int)) [(4, 0)] sh M48 (gPm sh P112) ∧ ∀ (r112 : Option gV) (M112 : gM), P112 r112 M112 → ∃ v112 : Int, r112 = some (0, v112) ∧ gOK sh M112 ∧
                              (Q (some (0, v112)) sh M112))
                          else
                            (if a2 = 3 then
                              (∃ v127 : Int, gC (gr 1 22) yX11_withParents cX11_withParents 5 (some (.int)) [(4, 0), (0, 1)] sh M48 (gPp sh M48 (0, v127)) ∧
                                (Q (some (0, v127)) sh M48))
                            else
                              (∃ v127 : Int, gC (gr 1 22) yX11_withParents cX11_withParents 5 (some (.int)) [(4, 0), (0, 0)] sh M48 (gPp sh M48 (0, v127)) ∧
                                (Q (some (0, v127)) sh M48))))))))))))))))) : gC (gr 3 66) yX11_historyIs cX11_historyIs 3 (some (.int)) [(4, 0), (0, a1), (0, a2)] sh M Q := by
  refine gC_ofA (lv := [_, _, _]) (by decide +kernel) (Nat.le_of_ble_eq_true rfl) rfl (fun hMw hav => ?_)
  refine g_iload_n (q0 := 1) (j := 1) rfl dX11_historyIs_0 rfl ?_
  obtain ⟨v1, e1, h⟩ := h
  refine g_callSp (as := [_]) (rest := []) mt_X11_isHistory ms_X11_isHistory ml_X11_166 dX11_historyIs_1 (q0 := 4) rfl rfl e1 rfl ⟨by decide, by decide⟩ (Nat.le_of_ble_eq_true rfl) ⟨Nat.zero_le _, Nat.zero_le _⟩ (fun _ => ?_)
  refine g_if_eq (q0 := 7) (tgt := 17) rfl dX11_historyIs_4 (by decide) (fun h4 => ?_) (fun h4 => ?_)
  · replace h := wI_pos h4 h
    refine g_iconst (q0 := 18) rfl dX11_historyIs_17 (k := ?_)
    exact g_ireturn dX11_historyIs_18 rfl ⟨Nat.zero_le _, Nat.zero_le _⟩ h
  · replace h := wI_neg h4 h
    refine g_iload_n (q0 := 8) (j := 2) rfl dX11_historyIs_7 rfl ?_
    refine g_if_lt (q0 := 11) (tgt := 17) rfl dX11_historyIs_8 (by decide) (fun h8 => ?_) (fun h8 => ?_)
    · replace h := wI_pos h8 h
      refine g_iconst (q0 := 18) rfl dX11_historyIs_17 (k := ?_)
      exact g_ireturn dX11_historyIs_18 rfl ⟨Nat.zero_le _, Nat.zero_le _⟩ h
    · replace h := wI_neg (Int.not_lt.mpr h8) h
      refine g_iload_n (q0 := 12) (j := 2) rfl dX11_historyIs_11 rfl ?_
      refine g_bipush (q0 := 14) rfl dX11_historyIs_12 (k := ?_)
      refine g_icmp_le (q0 := 17) (tgt := 19) rfl dX11_historyIs_14 (by decide) (fun h14 => ?_) (fun h14 => ?_)
      · replace h := wI_neg (Int.not_lt.mpr h14) h
        refine g_iload_n (q0 := 20) (j := 2) rfl dX11_historyIs_19 rfl ?_
        refine g_if_ne (q0 := 23) (tgt := 33) rfl dX11_historyIs_20 (by decide) (fun h20 => ?_) (fun h20 => ?_)
        · replace h := wI_neg h20 h
          refine g_aload_n (q0 := 34) (j := 0) rfl dX11_historyIs_33 rfl ?_
          refine g_getp (q0 := 37) (b := 4) rfl ff_X11_27 dX11_historyIs_34 rfl hOK (by decide) (sh_0 hOK) rfl (by decide) ?_
          refine g_aload_n (q0 := 38) (j := 0) rfl dX11_historyIs_37 rfl ?_
          refine g_getp (q0 := 41) (b := 408) rfl ff_X11_37 dX11_historyIs_38 rfl hOK (by decide) (sh_0 hOK) rfl (by decide) ?_
          refine g_iload_n (q0 := 42) (j := 1) rfl dX11_historyIs_41 rfl ?_
          obtain ⟨g1, h⟩ := h
          refine g_aald (q0 := 43) (q := 1) rfl dX11_historyIs_42 (sh_408 hOK) rfl g1.1 g1.2 ?_
          rw [(hOK.2.2.2 _ g1.1 g1.2).1]
          refine g_aload_n (q0 := 44) (j := 0) rfl dX11_historyIs_43 rfl ?_
          refine g_getp (q0 := 47) (b := 470) rfl ff_X11_74 dX11_historyIs_44 rfl hOK (by decide) (sh_0 hOK) rfl (by decide) ?_
          refine g_iconst (q0 := 48) rfl dX11_historyIs_47 (k := ?_)
          obtain ⟨P48, e48, h⟩ := h
          refine g_callVm (as := [_, _, _]) (rest := []) mt_X1_markHistory mi_X1_markHistory se_X1_markHistory ml_X11_361 dX11_historyIs_48 (q0 := 51) rfl rfl (sh_4 hOK) rfl rfl e48 rfl ⟨by decide, by decide⟩ (Nat.le_of_ble_eq_true rfl) ⟨Nat.zero_le _, Nat.zero_le _⟩ (fun r48 M48 hP48 hw48 hMw48 => ?_)
          obtain ⟨hr48, hOK2, h⟩ := h r48 M48 hP48
          subst hr48
          refine g_iload_n (q0 := 52) (j := 2) rfl dX11_historyIs_51 rfl ?_
          by_cases hs0 : a2 = 1
          · replace h := wI_pos hs0 h
            refine g_tabIn (off := 40) (tgt := 92) dX11_historyIs_52 (by omega) (by omega) (by rw [hs0]; rfl) (by decide) ?_
            refine g_aload_n (q0 := 93) (j := 0) rfl dX11_historyIs_92 rfl ?_
            refine g_getp (q0 := 96) (b := 470) rfl ff_X11_74 dX11_historyIs_93 rfl hOK2 (by decide) (sh_0 hOK2) rfl (by decide) ?_
            refine g_iconst (q0 := 97) rfl dX11_historyIs_96 (k := ?_)
            obtain ⟨v97, e97, h⟩ := h
            refine g_callVp (as := [_]) (rest := []) mt_X3_size mi_X3_size se_X3_size ml_X11_307 dX11_historyIs_97 (q0 := 100) rfl rfl (sh_470 hOK2) rfl rfl e97 rfl ⟨by decide, by decide⟩ (Nat.le_of_ble_eq_true rfl) ⟨Nat.zero_le _, Nat.zero_le _⟩ (fun _ => ?_)
            exact g_ireturn dX11_historyIs_100 rfl ⟨Nat.zero_le _, Nat.zero_le _⟩ h
          · replace h := wI_neg hs0 h
            by_cases hs1 : a2 = 2
            · replace h := wI_pos hs1 h
              refine g_tabIn (off := 64) (tgt := 116) dX11_historyIs_52 (by omega) (by omega) (by rw [hs1]; rfl) (by decide) ?_
              refine g_aload_n (q0 := 117) (j := 0) rfl dX11_historyIs_116 rfl ?_
              refine g_iload_n (q0 := 118) (j := 2) rfl dX11_historyIs_117 rfl ?_
              refine g_iconst (q0 := 119) rfl dX11_historyIs_118 (k := ?_)
              refine g_icmp_ne (q0 := 122) (tgt := 126) rfl dX11_historyIs_119 (by decide) (fun h119 => ?_) (fun h119 => ?_)
              · replace h := wI_neg h119 h
                refine g_iconst (q0 := 127) rfl dX11_historyIs_126 (k := ?_)
                obtain ⟨v127, e127, h⟩ := h
                refine g_callVp (as := [_]) (rest := []) mt_X11_withParents mi_X11_withParents se_X11_withParents ml_X11_496 dX11_historyIs_127 (q0 := 130) rfl rfl (sh_0 hOK2) rfl rfl e127 rfl ⟨by decide, by decide⟩ (Nat.le_of_ble_eq_true rfl) ⟨Nat.zero_le _, Nat.zero_le _⟩ (fun _ => ?_)
                exact g_ireturn dX11_historyIs_130 rfl ⟨Nat.zero_le _, Nat.zero_le _⟩ h
              · replace h := wI_pos h119 h
                refine g_iconst (q0 := 123) rfl dX11_historyIs_122 (k := ?_)
                refine g_goto (tgt := 127) dX11_historyIs_123 (by decide) ?_
                obtain ⟨v127, e127, h⟩ := h
                refine g_callVp (as := [_]) (rest := []) mt_X11_withParents mi_X11_withParents se_X11_withParents ml_X11_496 dX11_historyIs_127 (q0 := 130) rfl rfl (sh_0 hOK2) rfl rfl e127 rfl ⟨by decide, by decide⟩ (Nat.le_of_ble_eq_true rfl) ⟨Nat.zero_le _, Nat.zero_le _⟩ (fun _ => ?_)
                exact g_ireturn dX11_historyIs_130 rfl ⟨Nat.zero_le _, Nat.zero_le _⟩ h
            · replace h := wI_neg hs1 h
              by_cases hs2 : a2 = 3
              · replace h := wI_pos hs2 h
                refine g_tabIn (off := 64) (tgt := 116) dX11_historyIs_52 (by omega) (by omega) (by rw [hs2]; rfl) (by decide) ?_
                refine g_aload_n (q0 := 117) (j := 0) rfl dX11_historyIs_116 rfl ?_
                refine g_iload_n (q0 := 118) (j := 2) rfl dX11_historyIs_117 rfl ?_
                refine g_iconst (q0 := 119) rfl dX11_historyIs_118 (k := ?_)
                refine g_icmp_ne (q0 := 122) (tgt := 126) rfl dX11_historyIs_119 (by decide) (fun h119 => ?_) (fun h119 => ?_)
                · replace h := wI_neg h119 h
                  refine g_iconst (q0 := 127) rfl dX11_historyIs_126 (k := ?_)
                  obtain ⟨v127, e127, h⟩ := h
                  refine g_callVp (as := [_]) (rest := []) mt_X11_withParents mi_X11_withParents se_X11_withParents ml_X11_496 dX11_historyIs_127 (q0 := 130) rfl rfl (sh_0 hOK2) rfl rfl e127 rfl ⟨by decide, by decide⟩ (Nat.le_of_ble_eq_true rfl) ⟨Nat.zero_le _, Nat.zero_le _⟩ (fun _ => ?_)
                  exact g_ireturn dX11_historyIs_130 rfl ⟨Nat.zero_le _, Nat.zero_le _⟩ h
                · replace h := wI_pos h119 h
                  refine g_iconst (q0 := 123) rfl dX11_historyIs_122 (k := ?_)
                  refine g_goto (tgt := 127) dX11_historyIs_123 (by decide) ?_
                  obtain ⟨v127, e127, h⟩ := h
                  refine g_callVp (as := [_]) (rest := []) mt_X11_withParents mi_X11_withParents se_X11_withParents ml_X11_496 dX11_historyIs_127 (q0 := 130) rfl rfl (sh_0 hOK2) rfl rfl e127 rfl ⟨by decide, by decide⟩ (Nat.le_of_ble_eq_true rfl) ⟨Nat.zero_le _, Nat.zero_le _⟩ (fun _ => ?_)
                  exact g_ireturn dX11_historyIs_130 rfl ⟨Nat.zero_le _, Nat.zero_le _⟩ h
              · replace h := wI_neg hs2 h
                by_cases hs3 : a2 = 4
                · replace h := wI_pos hs3 h
                  refine g_tabIn (off := 49) (tgt := 101) dX11_historyIs_52 (by omega) (by omega) (by rw [hs3]; rfl) (by decide) ?_
                  refine g_aload_n (q0 := 102) (j := 0) rfl dX11_historyIs_101 rfl ?_
                  obtain ⟨P102, e102, h⟩ := h
                  refine g_callVm (as := []) (rest := []) mt_X11_childless mi_X11_childless se_X11_childless ml_X11_487 dX11_historyIs_102 (q0 := 105) rfl rfl (sh_0 hOK2) rfl rfl e102 rfl ⟨by decide, by decide⟩ (Nat.le_of_ble_eq_true rfl) ⟨Nat.zero_le _, Nat.zero_le _⟩ (fun r102 M102 hP102 hw102 hMw102 => ?_)
                  obtain ⟨v102, hr102, hOK4, h⟩ := h r102 M102 hP102
                  subst hr102
                  exact g_ireturn dX11_historyIs_105 rfl ⟨Nat.zero_le _, Nat.zero_le _⟩ h
                · replace h := wI_neg hs3 h
                  by_cases hs4 : a2 = 5
                  · replace h := wI_pos hs4 h
                    refine g_tabIn (off := 54) (tgt := 106) dX11_historyIs_52 (by omega) (by omega) (by rw [hs4]; rfl) (by decide) ?_
                    refine g_aload_n (q0 := 107) (j := 0) rfl dX11_historyIs_106 rfl ?_
                    obtain ⟨v107, e107, h⟩ := h
                    refine g_callVp (as := []) (rest := []) mt_X11_greatestGeneration mi_X11_greatestGeneration se_X11_greatestGeneration ml_X11_490 dX11_historyIs_107 (q0 := 110) rfl rfl (sh_0 hOK2) rfl rfl e107 rfl ⟨by decide, by decide⟩ (Nat.le_of_ble_eq_true rfl) ⟨Nat.zero_le _, Nat.zero_le _⟩ (fun _ => ?_)
                    exact g_ireturn dX11_historyIs_110 rfl ⟨Nat.zero_le _, Nat.zero_le _⟩ h
                  · replace h := wI_neg hs4 h
                    by_cases hs5 : a2 = 6
                    · replace h := wI_pos hs5 h
                      refine g_tabIn (off := 59) (tgt := 111) dX11_historyIs_52 (by omega) (by omega) (by rw [hs5]; rfl) (by decide) ?_
                      refine g_aload_n (q0 := 112) (j := 0) rfl dX11_historyIs_111 rfl ?_
                      obtain ⟨P112, e112, h⟩ := h
                      refine g_callVm (as := []) (rest := []) mt_X11_unlikeTrees mi_X11_unlikeTrees se_X11_unlikeTrees ml_X11_493 dX11_historyIs_112 (q0 := 115) rfl rfl (sh_0 hOK2) rfl rfl e112 rfl ⟨by decide, by decide⟩ (Nat.le_of_ble_eq_true rfl) ⟨Nat.zero_le _, Nat.zero_le _⟩ (fun r112 M112 hP112 hw112 hMw112 => ?_)
                      obtain ⟨v112, hr112, hOK3, h⟩ := h r112 M112 hP112
                      subst hr112
                      exact g_ireturn dX11_historyIs_115 rfl ⟨Nat.zero_le _, Nat.zero_le _⟩ h
                    · replace h := wI_neg hs5 h
                      refine g_tabOut (tgt := 116) dX11_historyIs_52 (by omega) (by decide) ?_
                      refine g_aload_n (q0 := 117) (j := 0) rfl dX11_historyIs_116 rfl ?_
                      refine g_iload_n (q0 := 118) (j := 2) rfl dX11_historyIs_117 rfl ?_
                      refine g_iconst (q0 := 119) rfl dX11_historyIs_118 (k := ?_)
                      refine g_icmp_ne (q0 := 122) (tgt := 126) rfl dX11_historyIs_119 (by decide) (fun h119 => ?_) (fun h119 => ?_)
                      · replace h := wI_neg h119 h
                        refine g_iconst (q0 := 127) rfl dX11_historyIs_126 (k := ?_)
                        obtain ⟨v127, e127, h⟩ := h
                        refine g_callVp (as := [_]) (rest := []) mt_X11_withParents mi_X11_withParents se_X11_withParents ml_X11_496 dX11_historyIs_127 (q0 := 130) rfl rfl (sh_0 hOK2) rfl rfl e127 rfl ⟨by decide, by decide⟩ (Nat.le_of_ble_eq_true rfl) ⟨Nat.zero_le _, Nat.zero_le _⟩ (fun _ => ?_)
                        exact g_ireturn dX11_historyIs_130 rfl ⟨Nat.zero_le _, Nat.zero_le _⟩ h
                      · replace h := wI_pos h119 h
                        refine g_iconst (q0 := 123) rfl dX11_historyIs_122 (k := ?_)
                        refine g_goto (tgt := 127) dX11_historyIs_123 (by decide) ?_
                        obtain ⟨v127, e127, h⟩ := h
                        refine g_callVp (as := [_]) (rest := []) mt_X11_withParents mi_X11_withParents se_X11_withParents ml_X11_496 dX11_historyIs_127 (q0 := 130) rfl rfl (sh_0 hOK2) rfl rfl e127 rfl ⟨by decide, by decide⟩ (Nat.le_of_ble_eq_true rfl) ⟨Nat.zero_le _, Nat.zero_le _⟩ (fun _ => ?_)
                        exact g_ireturn dX11_historyIs_130 rfl ⟨Nat.zero_le _, Nat.zero_le _⟩ h
        · replace h := wI_pos h20 h
          refine g_aload_n (q0 := 24) (j := 0) rfl dX11_historyIs_23 rfl ?_
          refine g_getp (q0 := 27) (b := 408) rfl ff_X11_37 dX11_historyIs_24 rfl hOK (by decide) (sh_0 hOK) rfl (by decide) ?_
          refine g_iload_n (q0 := 28) (j := 1) rfl dX11_historyIs_27 rfl ?_
          obtain ⟨g5, h⟩ := h
          refine g_aald (q0 := 29) (q := 1) rfl dX11_historyIs_28 (sh_408 hOK) rfl g5.1 g5.2 ?_
          rw [(hOK.2.2.2 _ g5.1 g5.2).1]
          obtain ⟨g6, h⟩ := h
          refine g_getf (q0 := 32) (t := 0) (fi := 0) rfl rfl ff_X11_180 dX11_historyIs_29 rfl g6.1 ?_
          exact g_ireturn dX11_historyIs_32 rfl ⟨Nat.zero_le _, Nat.zero_le _⟩ h
      · replace h := wI_pos h14 h
        refine g_iconst (q0 := 18) rfl dX11_historyIs_17 (k := ?_)
        exact g_ireturn dX11_historyIs_18 rfl ⟨Nat.zero_le _, Nat.zero_le _⟩ h
-- ==== X11_withParents
theorem dX11_withParents_0 : decode cX11_withParents 0 = .ok (.iconst 0, 1) := by decide +kernel
theorem dX11_withParents_1 : decode cX11_withParents 1 = .ok (.istore_n 2, 1) := by decide +kernel
theorem dX11_withParents_2 : decode cX11_withParents 2 = .ok (.iconst 0, 1) := by decide +kernel
theorem dX11_withParents_3 : decode cX11_withParents 3 = .ok (.istore_n 3, 1) := by decide +kernel
theorem dX11_withParents_4 : decode cX11_withParents 4 = .ok (.iload_n 3, 1) := by decide +kernel
theorem dX11_withParents_5 : decode cX11_withParents 5 = .ok (.aload_n 0, 1) := by decide +kernel
theorem dX11_withParents_6 : decode cX11_withParents 6 = .ok (.getfield 27, 3) := by decide +kernel
theorem dX11_withParents_9 : decode cX11_withParents 9 = .ok (.getfield 135, 3) := by decide +kernel
theorem dX11_withParents_12 : decode cX11_withParents 12 = .ok (.if_icmp .ge 53, 3) := by decide +kernel
theorem dX11_withParents_15 : decode cX11_withParents 15 = .ok (.aload_n 0, 1) := by decide +kernel
theorem dX11_withParents_16 : decode cX11_withParents 16 = .ok (.getfield 27, 3) := by decide +kernel
theorem dX11_withParents_19 : decode cX11_withParents 19 = .ok (.getfield 295, 3) := by decide +kernel
theorem dX11_withParents_22 : decode cX11_withParents 22 = .ok (.iload_n 3, 1) := by decide +kernel
theorem dX11_withParents_23 : decode cX11_withParents 23 = .ok (.iaload, 1) := by decide +kernel
theorem dX11_withParents_24 : decode cX11_withParents 24 = .ok (.istore 4, 2) := by decide +kernel
theorem dX11_withParents_26 : decode cX11_withParents 26 = .ok (.aload_n 0, 1) := by decide +kernel
theorem dX11_withParents_27 : decode cX11_withParents 27 = .ok (.getfield 74, 3) := by decide +kernel
theorem dX11_withParents_30 : decode cX11_withParents 30 = .ok (.iconst 0, 1) := by decide +kernel
theorem dX11_withParents_31 : decode cX11_withParents 31 = .ok (.iload_n 3, 1) := by decide +kernel
theorem dX11_withParents_32 : decode cX11_withParents 32 = .ok (.invokevirtual 365, 3) := by decide +kernel
theorem dX11_withParents_35 : decode cX11_withParents 35 = .ok (.ifCond .eq 24, 3) := by decide +kernel
theorem dX11_withParents_38 : decode cX11_withParents 38 = .ok (.iload_n 1, 1) := by decide +kernel
theorem dX11_withParents_39 : decode cX11_withParents 39 = .ok (.ifCond .eq 12, 3) := by decide +kernel
theorem dX11_withParents_42 : decode cX11_withParents 42 = .ok (.iload 4, 2) := by decide +kernel
theorem dX11_withParents_44 : decode cX11_withParents 44 = .ok (.iconst 2, 1) := by decide +kernel
theorem dX11_withParents_45 : decode cX11_withParents 45 = .ok (.if_icmp .lt 14, 3) := by decide +kernel
theorem dX11_withParents_48 : decode cX11_withParents 48 = .ok (.goto 8, 3) := by decide +kernel
theorem dX11_withParents_51 : decode cX11_withParents 51 = .ok (.iload 4, 2) := by decide +kernel
theorem dX11_withParents_53 : decode cX11_withParents 53 = .ok (.ifCond .ne 6, 3) := by decide +kernel
theorem dX11_withParents_56 : decode cX11_withParents 56 = .ok (.iinc 2 1, 3) := by decide +kernel
theorem dX11_withParents_59 : decode cX11_withParents 59 = .ok (.iinc 3 1, 3) := by decide +kernel
theorem dX11_withParents_62 : decode cX11_withParents 62 = .ok (.goto (-58), 3) := by decide +kernel
theorem dX11_withParents_65 : decode cX11_withParents 65 = .ok (.iload_n 2, 1) := by decide +kernel
theorem dX11_withParents_66 : decode cX11_withParents 66 = .ok (.ireturn, 1) := by decide +kernel
def P_X11_withParents_4 (sh : gS) (Q : Option gV → gS → gM → Prop) (x1 x2 x3 : Int) (M : gM) : Prop := gA (gr 1 22) yX11_withParents cX11_withParents 5 (some (.int)) Q (0, 0) 4 [(4, 0), (0, x1), (0, x2), (0, x3), (9, 0)] [] sh M
theorem w_X11_withParents_4 {sh : gS} {Q : Option gV → gS → gM → Prop} {x1 x2 x3 : Int} {M : gM} (hOK : gOK sh M) (h : (if x3 < (M 4 0) then
    ((0 ≤ x3 ∧ x3 < 120) ∧
      (∃ v32 : Int, gC (gr 0 0) yX3_has cX3_has 3 (some (.boolean)) [(4, 470), (0, 0), (0, x3)] sh M (gPp sh M (0, v32)) ∧
        (if v32 = 0 then
          (P_X11_withParents_4 sh Q x1 x2 (gw32 (x3 + 1)) M)
        else
          (if x1 = 0 then
            (if (M 5 x3) = 0 then
              (P_X11_withParents_4 sh Q x1 (gw32 (x2 + 1)) (gw32 (x3 + 1)) M)
            else
              (P_X11_withParents_4 sh Q x1 x2 (gw32 (x3 + 1)) M))
          else
            (if (M 5 x3) < 2 then
              (P_X11_withParents_4 sh Q x1 x2 (gw32 (x3 + 1)) M)
            else
              (P_X11_withParents_4 sh Q x1 (gw32 (x2 + 1)) (gw32 (x3 + 1)) M))))))
  else
    (Q (some (0, x2)) sh M))) : P_X11_withParents_4 sh Q x1 x2 x3 M := by
  unfold P_X11_withParents_4
  refine g_iload_n (q0 := 5) (j := 3) rfl dX11_withParents_4 rfl ?_
  refine g_aload_n (q0 := 6) (j := 0) rfl dX11_withParents_5 rfl ?_
  refine g_getp (q0 := 9) (b := 4) rfl ff_X11_27 dX11_withParents_6 rfl hOK (by decide) (sh_0 hOK) rfl (by decide) ?_
  refine g_getf (q0 := 12) (t := 0) (fi := 0) rfl rfl ff_X11_135 dX11_withParents_9 rfl (sh_4 hOK) ?_
  refine g_icmp_ge (q0 := 15) (tgt := 65) rfl dX11_withParents_12 (by decide) (fun h12 => ?_) (fun h12 => ?_)
  · replace h := wI_neg (Int.not_lt.mpr h12) h
    refine g_iload_n (q0 := 66) (j := 2) rfl dX11_withParents_65 rfl ?_
    exact g_ireturn dX11_withParents_66 rfl ⟨Nat.zero_le _, Nat.zero_le _⟩ h
  · replace h := wI_pos h12 h
    refine g_aload_n (q0 := 16) (j := 0) rfl dX11_withParents_15 rfl ?_
    refine g_getp (q0 := 19) (b := 4) rfl ff_X11_27 dX11_withParents_16 rfl hOK (by decide) (sh_0 hOK) rfl (by decide) ?_
    refine g_getp (q0 := 22) (b := 5) rfl ff_X11_295 dX11_withParents_19 rfl hOK (by decide) (sh_4 hOK) rfl (by decide) ?_
    refine g_iload_n (q0 := 23) (j := 3) rfl dX11_withParents_22 rfl ?_
    obtain ⟨g1, h⟩ := h
    refine g_iald (q0 := 24) rfl dX11_withParents_23 (sh_5 hOK) g1.1 g1.2 ?_
    refine g_istore (q0 := 26) (j := 4) (lv2 := [_, _, _, _, _]) rfl dX11_withParents_24 (by decide) rfl rfl ?_
    refine g_aload_n (q0 := 27) (j := 0) rfl dX11_withParents_26 rfl ?_
    refine g_getp (q0 := 30) (b := 470) rfl ff_X11_74 dX11_withParents_27 rfl hOK (by decide) (sh_0 hOK) rfl (by decide) ?_
    refine g_iconst (q0 := 31) rfl dX11_withParents_30 (k := ?_)
    refine g_iload_n (q0 := 32) (j := 3) rfl dX11_withParents_31 rfl ?_
    obtain ⟨v32, e32, h⟩ := h
    refine g_callVp (as := [_, _]) (rest := []) mt_X3_has mi_X3_has se_X3_has ml_X11_365 dX11_withParents_32 (q0 := 35) rfl rfl (sh_470 hOK) rfl rfl e32 rfl ⟨by decide, by decide⟩ (Nat.le_of_ble_eq_true rfl) ⟨Nat.zero_le _, Nat.zero_le _⟩ (fun _ => ?_)
    refine g_if_eq (q0 := 38) (tgt := 59) rfl dX11_withParents_35 (by decide) (fun h35 => ?_) (fun h35 => ?_)
    · replace h := wI_pos h35 h
      refine g_iincw (q0 := 62) (lv2 := [_, _, _, _, _]) rfl dX11_withParents_59 rfl (by decide) rfl rfl ?_
      refine g_goto (tgt := 4) dX11_withParents_62 (by decide) ?_
      refine gA_jk (lv1 := [_, _, _, _, (9, 0)]) ⟨.inl rfl, .inl rfl, .inl rfl, .inl rfl, .inr rfl, trivial⟩ ?_
      exact h
    · replace h := wI_neg h35 h
      refine g_iload_n (q0 := 39) (j := 1) rfl dX11_withParents_38 rfl ?_
      refine g_if_eq (q0 := 42) (tgt := 51) rfl dX11_withParents_39 (by decide) (fun h39 => ?_) (fun h39 => ?_)
      · replace h := wI_pos h39 h
        refine g_iload (q0 := 53) (j := 4) rfl dX11_withParents_51 rfl ?_
        refine g_if_ne (q0 := 56) (tgt := 59) rfl dX11_withParents_53 (by decide) (fun h53 => ?_) (fun h53 => ?_)
        · replace h := wI_neg h53 h
          refine g_iincw (q0 := 62) (lv2 := [_, _, _, _, _]) rfl dX11_withParents_59 rfl (by decide) rfl rfl ?_
          refine g_goto (tgt := 4) dX11_withParents_62 (by decide) ?_
          refine gA_jk (lv1 := [_, _, _, _, (9, 0)]) ⟨.inl rfl, .inl rfl, .inl rfl, .inl rfl, .inr rfl, trivial⟩ ?_
          exact h
        · replace h := wI_pos h53 h
          refine g_iincw (q0 := 59) (lv2 := [_, _, _, _, _]) rfl dX11_withParents_56 rfl (by decide) rfl rfl ?_
          refine g_iincw (q0 := 62) (lv2 := [_, _, _, _, _]) rfl dX11_withParents_59 rfl (by decide) rfl rfl ?_
          refine g_goto (tgt := 4) dX11_withParents_62 (by decide) ?_
          refine gA_jk (lv1 := [_, _, _, _, (9, 0)]) ⟨.inl rfl, .inl rfl, .inl rfl, .inl rfl, .inr rfl, trivial⟩ ?_
          exact h
      · replace h := wI_neg h39 h
        refine g_iload (q0 := 44) (j := 4) rfl dX11_withParents_42 rfl ?_
        refine g_iconst (q0 := 45) rfl dX11_withParents_44 (k := ?_)
        refine g_icmp_lt (q0 := 48) (tgt := 59) rfl dX11_withParents_45 (by decide) (fun h45 => ?_) (fun h45 => ?_)
        · replace h := wI_pos h45 h
          refine g_iincw (q0 := 62) (lv2 := [_, _, _, _, _]) rfl dX11_withParents_59 rfl (by decide) rfl rfl ?_
          refine g_goto (tgt := 4) dX11_withParents_62 (by decide) ?_
          refine gA_jk (lv1 := [_, _, _, _, (9, 0)]) ⟨.inl rfl, .inl rfl, .inl rfl, .inl rfl, .inr rfl, trivial⟩ ?_
          exact h
        · replace h := wI_neg (Int.not_lt.mpr h45) h
          refine g_goto (tgt := 56) dX11_withParents_48 (by decide) ?_
          refine g_iincw (q0 := 59) (lv2 := [_, _, _, _, _]) rfl dX11_withParents_56 rfl (by decide) rfl rfl ?_
          refine g_iincw (q0 := 62) (lv2 := [_, _, _, _, _]) rfl dX11_withParents_59 rfl (by decide) rfl rfl ?_
          refine g_goto (tgt := 4) dX11_withParents_62 (by decide) ?_
          refine gA_jk (lv1 := [_, _, _, _, (9, 0)]) ⟨.inl rfl, .inl rfl, .inl rfl, .inl rfl, .inr rfl, trivial⟩ ?_
          exact h
theorem w_X11_withParents {sh : gS} {Q : Option gV → gS → gM → Prop} {a1 : Int} {M : gM} (hOK : gOK sh M) (h : (P_X11_withParents_4 sh Q a1 0 0 M)) : gC (gr 1 22) yX11_withParents cX11_withParents 5 (some (.int)) [(4, 0), (0, a1)] sh M Q := by
  refine gC_ofA (lv := [_, _, _, _, _]) (by decide +kernel) (Nat.le_of_ble_eq_true rfl) rfl (fun hMw hav => ?_)
  refine g_iconst (q0 := 1) rfl dX11_withParents_0 (k := ?_)
  refine g_istore_n (q0 := 2) (j := 2) (lv2 := [_, _, _, _, _]) rfl dX11_withParents_1 (by decide) rfl rfl ?_
  refine g_iconst (q0 := 3) rfl dX11_withParents_2 (k := ?_)
  refine g_istore_n (q0 := 4) (j := 3) (lv2 := [_, _, _, _, _]) rfl dX11_withParents_3 (by decide) rfl rfl ?_
  exact h
-- ==== X11_childless
theorem dX11_childless_0 : decode cX11_childless 0 = .ok (.aload_n 0, 1) := by decide +kernel
theorem dX11_childless_1 : decode cX11_childless 1 = .ok (.getfield 74, 3) := by decide +kernel
theorem dX11_childless_4 : decode cX11_childless 4 = .ok (.iconst 1, 1) := by decide +kernel
theorem dX11_childless_5 : decode cX11_childless 5 = .ok (.invokevirtual 500, 3) := by decide +kernel
theorem dX11_childless_8 : decode cX11_childless 8 = .ok (.iconst 0, 1) := by decide +kernel
theorem dX11_childless_9 : decode cX11_childless 9 = .ok (.istore_n 1, 1) := by decide +kernel
theorem dX11_childless_10 : decode cX11_childless 10 = .ok (.iload_n 1, 1) := by decide +kernel
theorem dX11_childless_11 : decode cX11_childless 11 = .ok (.aload_n 0, 1) := by decide +kernel
theorem dX11_childless_12 : decode cX11_childless 12 = .ok (.getfield 27, 3) := by decide +kernel
theorem dX11_childless_15 : decode cX11_childless 15 = .ok (.getfield 135, 3) := by decide +kernel
theorem dX11_childless_18 : decode cX11_childless 18 = .ok (.if_icmp .ge 59, 3) := by decide +kernel
theorem dX11_childless_21 : decode cX11_childless 21 = .ok (.iconst 0, 1) := by decide +kernel
theorem dX11_childless_22 : decode cX11_childless 22 = .ok (.istore_n 2, 1) := by decide +kernel
theorem dX11_childless_23 : decode cX11_childless 23 = .ok (.aload_n 0, 1) := by decide +kernel
theorem dX11_childless_24 : decode cX11_childless 24 = .ok (.getfield 74, 3) := by decide +kernel
theorem dX11_childless_27 : decode cX11_childless 27 = .ok (.iconst 0, 1) := by decide +kernel
theorem dX11_childless_28 : decode cX11_childless 28 = .ok (.iload_n 1, 1) := by decide +kernel
theorem dX11_childless_29 : decode cX11_childless 29 = .ok (.invokevirtual 365, 3) := by decide +kernel
theorem dX11_childless_32 : decode cX11_childless 32 = .ok (.ifCond .eq 39, 3) := by decide +kernel
theorem dX11_childless_35 : decode cX11_childless 35 = .ok (.iload_n 2, 1) := by decide +kernel
theorem dX11_childless_36 : decode cX11_childless 36 = .ok (.aload_n 0, 1) := by decide +kernel
theorem dX11_childless_37 : decode cX11_childless 37 = .ok (.getfield 27, 3) := by decide +kernel
theorem dX11_childless_40 : decode cX11_childless 40 = .ok (.getfield 295, 3) := by decide +kernel
theorem dX11_childless_43 : decode cX11_childless 43 = .ok (.iload_n 1, 1) := by decide +kernel
theorem dX11_childless_44 : decode cX11_childless 44 = .ok (.iaload, 1) := by decide +kernel
theorem dX11_childless_45 : decode cX11_childless 45 = .ok (.if_icmp .ge 26, 3) := by decide +kernel
theorem dX11_childless_48 : decode cX11_childless 48 = .ok (.aload_n 0, 1) := by decide +kernel
theorem dX11_childless_49 : decode cX11_childless 49 = .ok (.getfield 74, 3) := by decide +kernel
theorem dX11_childless_52 : decode cX11_childless 52 = .ok (.iconst 1, 1) := by decide +kernel
theorem dX11_childless_53 : decode cX11_childless 53 = .ok (.aload_n 0, 1) := by decide +kernel
theorem dX11_childless_54 : decode cX11_childless 54 = .ok (.getfield 27, 3) := by decide +kernel
theorem dX11_childless_57 : decode cX11_childless 57 = .ok (.iload_n 1, 1) := by decide +kernel
theorem dX11_childless_58 : decode cX11_childless 58 = .ok (.iload_n 2, 1) := by decide +kernel
theorem dX11_childless_59 : decode cX11_childless 59 = .ok (.invokevirtual 314, 3) := by decide +kernel
theorem dX11_childless_62 : decode cX11_childless 62 = .ok (.invokevirtual 503, 3) := by decide +kernel
theorem dX11_childless_65 : decode cX11_childless 65 = .ok (.iinc 2 1, 3) := by decide +kernel
theorem dX11_childless_68 : decode cX11_childless 68 = .ok (.goto (-45), 3) := by decide +kernel
theorem dX11_childless_71 : decode cX11_childless 71 = .ok (.iinc 1 1, 3) := by decide +kernel
theorem dX11_childless_74 : decode cX11_childless 74 = .ok (.goto (-64), 3) := by decide +kernel
theorem dX11_childless_77 : decode cX11_childless 77 = .ok (.aload_n 0, 1) := by decide +kernel
theorem dX11_childless_78 : decode cX11_childless 78 = .ok (.getfield 74, 3) := by decide +kernel
theorem dX11_childless_81 : decode cX11_childless 81 = .ok (.iconst 0, 1) := by decide +kernel
theorem dX11_childless_82 : decode cX11_childless 82 = .ok (.invokevirtual 307, 3) := by decide +kernel
theorem dX11_childless_85 : decode cX11_childless 85 = .ok (.aload_n 0, 1) := by decide +kernel
theorem dX11_childless_86 : decode cX11_childless 86 = .ok (.getfield 74, 3) := by decide +kernel
theorem dX11_childless_89 : decode cX11_childless 89 = .ok (.iconst 0, 1) := by decide +kernel
theorem dX11_childless_90 : decode cX11_childless 90 = .ok (.aload_n 0, 1) := by decide +kernel
theorem dX11_childless_91 : decode cX11_childless 91 = .ok (.getfield 74, 3) := by decide +kernel
theorem dX11_childless_94 : decode cX11_childless 94 = .ok (.iconst 1, 1) := by decide +kernel
theorem dX11_childless_95 : decode cX11_childless 95 = .ok (.invokevirtual 506, 3) := by decide +kernel
theorem dX11_childless_98 : decode cX11_childless 98 = .ok (.isub, 1) := by decide +kernel
theorem dX11_childless_99 : decode cX11_childless 99 = .ok (.ireturn, 1) := by decide +kernel
def P_X11_childless_10 (sh : gS) (Q : Option gV → gS → gM → Prop) (x1 : Int) (M : gM) : Prop := gA (gr 2 44) yX11_childless cX11_childless 3 (some (.int)) Q (0, 0) 10 [(4, 0), (0, x1), (9, 0)] [] sh M
def P_X11_childless_23 (sh : gS) (Q : Option gV → gS → gM → Prop) (x1 x2 : Int) (M : gM) : Prop := gA (gr 2 44) yX11_childless cX11_childless 3 (some (.int)) Q (0, 0) 23 [(4, 0), (0, x1), (0, x2)] [] sh M
theorem w_X11_childless_10 {sh : gS} {Q : Option gV → gS → gM → Prop} {x1 : Int} {M : gM} (hOK : gOK sh M) (h : (if x1 < (M 4 0) then
    (P_X11_childless_23 sh Q x1 0 M)
  else
    (∃ v82 : Int, gC (gr 1 21) yX3_size cX3_size 2 (some (.int)) [(4, 470), (0, 0)] sh M (gPp sh M (0, v82)) ∧
      (∃ v95 : Int, gC (gr 1 21) yX3_sizeInBoth cX3_sizeInBoth 4 (some (.int)) [(4, 470), (0, 0), (4, 470), (0, 1)] sh M (gPp sh M (0, v95)) ∧
        (Q (some (0, (gw32 (v82 - v95)))) sh M))))) : P_X11_childless_10 sh Q x1 M := by
  unfold P_X11_childless_10
  refine g_iload_n (q0 := 11) (j := 1) rfl dX11_childless_10 rfl ?_
  refine g_aload_n (q0 := 12) (j := 0) rfl dX11_childless_11 rfl ?_
  refine g_getp (q0 := 15) (b := 4) rfl ff_X11_27 dX11_childless_12 rfl hOK (by decide) (sh_0 hOK) rfl (by decide) ?_
  refine g_getf (q0 := 18) (t := 0) (fi := 0) rfl rfl ff_X11_135 dX11_childless_15 rfl (sh_4 hOK) ?_
  refine g_icmp_ge (q0 := 21) (tgt := 77) rfl dX11_childless_18 (by decide) (fun h18 => ?_) (fun h18 => ?_)
  · replace h := wI_neg (Int.not_lt.mpr h18) h
    refine g_aload_n (q0 := 78) (j := 0) rfl dX11_childless_77 rfl ?_
    refine g_getp (q0 := 81) (b := 470) rfl ff_X11_74 dX11_childless_78 rfl hOK (by decide) (sh_0 hOK) rfl (by decide) ?_
    refine g_iconst (q0 := 82) rfl dX11_childless_81 (k := ?_)
    obtain ⟨v82, e82, h⟩ := h
    refine g_callVp (as := [_]) (rest := []) mt_X3_size mi_X3_size se_X3_size ml_X11_307 dX11_childless_82 (q0 := 85) rfl rfl (sh_470 hOK) rfl rfl e82 rfl ⟨by decide, by decide⟩ (Nat.le_of_ble_eq_true rfl) ⟨Nat.zero_le _, Nat.zero_le _⟩ (fun _ => ?_)
    refine g_aload_n (q0 := 86) (j := 0) rfl dX11_childless_85 rfl ?_
    refine g_getp (q0 := 89) (b := 470) rfl ff_X11_74 dX11_childless_86 rfl hOK (by decide) (sh_0 hOK) rfl (by decide) ?_
    refine g_iconst (q0 := 90) rfl dX11_childless_89 (k := ?_)
    refine g_aload_n (q0 := 91) (j := 0) rfl dX11_childless_90 rfl ?_
    refine g_getp (q0 := 94) (b := 470) rfl ff_X11_74 dX11_childless_91 rfl hOK (by decide) (sh_0 hOK) rfl (by decide) ?_
    refine g_iconst (q0 := 95) rfl dX11_childless_94 (k := ?_)
    obtain ⟨v95, e95, h⟩ := h
    refine g_callVp (as := [_, _, _]) (rest := [_]) mt_X3_sizeInBoth mi_X3_sizeInBoth se_X3_sizeInBoth ml_X11_506 dX11_childless_95 (q0 := 98) rfl rfl (sh_470 hOK) rfl rfl e95 rfl ⟨by decide, by decide⟩ (Nat.le_of_ble_eq_true rfl) ⟨Nat.zero_le _, Nat.zero_le _⟩ (fun _ => ?_)
    refine g_isubw (q0 := 99) rfl dX11_childless_98 ?_
    exact g_ireturn dX11_childless_99 rfl ⟨Nat.zero_le _, Nat.zero_le _⟩ h
  · replace h := wI_pos h18 h
    refine g_iconst (q0 := 22) rfl dX11_childless_21 (k := ?_)
    refine g_istore_n (q0 := 23) (j := 2) (lv2 := [_, _, _]) rfl dX11_childless_22 (by decide) rfl rfl ?_
    exact h
theorem w_X11_childless_23 {sh : gS} {Q : Option gV → gS → gM → Prop} {x1 x2 : Int} {M : gM} (hOK : gOK sh M) (h : (∃ v29 : Int, gC (gr 0 0) yX3_has cX3_has 3 (some (.boolean)) [(4, 470), (0, 0), (0, x1)] sh M (gPp sh M (0, v29)) ∧
    (if v29 = 0 then
      (P_X11_childless_10 sh Q (gw32 (x1 + 1)) M)
    else
      ((0 ≤ x1 ∧ x1 < 120) ∧
        (if x2 < (M 5 x1) then
          (∃ v59 : Int, gC (gr 0 0) yX1_parent cX1_parent 3 (some (.int)) [(4, 4), (0, x1), (0, x2)] sh M (gPp sh M (0, v59)) ∧
            (∃ P62 : Option gV → gM → Prop, gC (gr 0 0) yX3_put cX3_put 3 none [(4, 470), (0, 1), (0, v59)] sh M (gPm sh P62) ∧ ∀ (r62 : Option gV) (M62 : gM), P62 r62 M62 → r62 = none ∧ gOK sh M62 ∧
              (P_X11_childless_23 sh Q x1 (gw32 (x2 + 1)) M62)))
        else
          (P_X11_childless_10 sh Q (gw32 (x1 + 1)) M)))))) : P_X11_childless_23 sh Q x1 x2 M := by
  unfold P_X11_childless_23
  refine g_aload_n (q0 := 24) (j := 0) rfl dX11_childless_23 rfl ?_
  refine g_getp (q0 := 27) (b := 470) rfl ff_X11_74 dX11_childless_24 rfl hOK (by decide) (sh_0 hOK) rfl (by decide) ?_
  refine g_iconst (q0 := 28) rfl dX11_childless_27 (k := ?_)
  refine g_iload_n (q0 := 29) (j := 1) rfl dX11_childless_28 rfl ?_
  obtain ⟨v29, e29, h⟩ := h
  refine g_callVp (as := [_, _]) (rest := []) mt_X3_has mi_X3_has se_X3_has ml_X11_365 dX11_childless_29 (q0 := 32) rfl rfl (sh_470 hOK) rfl rfl e29 rfl ⟨by decide, by decide⟩ (Nat.le_of_ble_eq_true rfl) ⟨Nat.zero_le _, Nat.zero_le _⟩ (fun _ => ?_)
  refine g_if_eq (q0 := 35) (tgt := 71) rfl dX11_childless_32 (by decide) (fun h32 => ?_) (fun h32 => ?_)
  · replace h := wI_pos h32 h
    refine g_iincw (q0 := 74) (lv2 := [_, _, _]) rfl dX11_childless_71 rfl (by decide) rfl rfl ?_
    refine g_goto (tgt := 10) dX11_childless_74 (by decide) ?_
    refine gA_jk (lv1 := [_, _, (9, 0)]) ⟨.inl rfl, .inl rfl, .inr rfl, trivial⟩ ?_
    exact h
  · replace h := wI_neg h32 h
    refine g_iload_n (q0 := 36) (j := 2) rfl dX11_childless_35 rfl ?_
    refine g_aload_n (q0 := 37) (j := 0) rfl dX11_childless_36 rfl ?_
    refine g_getp (q0 := 40) (b := 4) rfl ff_X11_27 dX11_childless_37 rfl hOK (by decide) (sh_0 hOK) rfl (by decide) ?_
    refine g_getp (q0 := 43) (b := 5) rfl ff_X11_295 dX11_childless_40 rfl hOK (by decide) (sh_4 hOK) rfl (by decide) ?_
    refine g_iload_n (q0 := 44) (j := 1) rfl dX11_childless_43 rfl ?_
    obtain ⟨g1, h⟩ := h
    refine g_iald (q0 := 45) rfl dX11_childless_44 (sh_5 hOK) g1.1 g1.2 ?_
    refine g_icmp_ge (q0 := 48) (tgt := 71) rfl dX11_childless_45 (by decide) (fun h45 => ?_) (fun h45 => ?_)
    · replace h := wI_neg (Int.not_lt.mpr h45) h
      refine g_iincw (q0 := 74) (lv2 := [_, _, _]) rfl dX11_childless_71 rfl (by decide) rfl rfl ?_
      refine g_goto (tgt := 10) dX11_childless_74 (by decide) ?_
      refine gA_jk (lv1 := [_, _, (9, 0)]) ⟨.inl rfl, .inl rfl, .inr rfl, trivial⟩ ?_
      exact h
    · replace h := wI_pos h45 h
      refine g_aload_n (q0 := 49) (j := 0) rfl dX11_childless_48 rfl ?_
      refine g_getp (q0 := 52) (b := 470) rfl ff_X11_74 dX11_childless_49 rfl hOK (by decide) (sh_0 hOK) rfl (by decide) ?_
      refine g_iconst (q0 := 53) rfl dX11_childless_52 (k := ?_)
      refine g_aload_n (q0 := 54) (j := 0) rfl dX11_childless_53 rfl ?_
      refine g_getp (q0 := 57) (b := 4) rfl ff_X11_27 dX11_childless_54 rfl hOK (by decide) (sh_0 hOK) rfl (by decide) ?_
      refine g_iload_n (q0 := 58) (j := 1) rfl dX11_childless_57 rfl ?_
      refine g_iload_n (q0 := 59) (j := 2) rfl dX11_childless_58 rfl ?_
      obtain ⟨v59, e59, h⟩ := h
      refine g_callVp (as := [_, _]) (rest := [_, _]) mt_X1_parent mi_X1_parent se_X1_parent ml_X11_314 dX11_childless_59 (q0 := 62) rfl rfl (sh_4 hOK) rfl rfl e59 rfl ⟨by decide, by decide⟩ (Nat.le_of_ble_eq_true rfl) ⟨Nat.zero_le _, Nat.zero_le _⟩ (fun _ => ?_)
      obtain ⟨P62, e62, h⟩ := h
      refine g_callVm (as := [_, _]) (rest := []) mt_X3_put mi_X3_put se_X3_put ml_X11_503 dX11_childless_62 (q0 := 65) rfl rfl (sh_470 hOK) rfl rfl e62 rfl ⟨by decide, by decide⟩ (Nat.le_of_ble_eq_true rfl) ⟨Nat.zero_le _, Nat.zero_le _⟩ (fun r62 M62 hP62 hw62 hMw62 => ?_)
      obtain ⟨hr62, hOK2, h⟩ := h r62 M62 hP62
      subst hr62
      refine g_iincw (q0 := 68) (lv2 := [_, _, _]) rfl dX11_childless_65 rfl (by decide) rfl rfl ?_
      refine g_goto (tgt := 23) dX11_childless_68 (by decide) ?_
      exact h
theorem w_X11_childless {sh : gS} {Q : Option gV → gS → gM → Prop} {M : gM} (hOK : gOK sh M) (h : (∃ P5 : Option gV → gM → Prop, gC (gr 0 0) yX3_clear cX3_clear 2 none [(4, 470), (0, 1)] sh M (gPm sh P5) ∧ ∀ (r5 : Option gV) (M5 : gM), P5 r5 M5 → r5 = none ∧ gOK sh M5 ∧
    (P_X11_childless_10 sh Q 0 M5))) : gC (gr 2 44) yX11_childless cX11_childless 3 (some (.int)) [(4, 0)] sh M Q := by
  refine gC_ofA (lv := [_, _, _]) (by decide +kernel) (Nat.le_of_ble_eq_true rfl) rfl (fun hMw hav => ?_)
  refine g_aload_n (q0 := 1) (j := 0) rfl dX11_childless_0 rfl ?_
  refine g_getp (q0 := 4) (b := 470) rfl ff_X11_74 dX11_childless_1 rfl hOK (by decide) (sh_0 hOK) rfl (by decide) ?_
  refine g_iconst (q0 := 5) rfl dX11_childless_4 (k := ?_)
  obtain ⟨P5, e5, h⟩ := h
  refine g_callVm (as := [_]) (rest := []) mt_X3_clear mi_X3_clear se_X3_clear ml_X11_500 dX11_childless_5 (q0 := 8) rfl rfl (sh_470 hOK) rfl rfl e5 rfl ⟨by decide, by decide⟩ (Nat.le_of_ble_eq_true rfl) ⟨Nat.zero_le _, Nat.zero_le _⟩ (fun r5 M5 hP5 hw5 hMw5 => ?_)
  obtain ⟨hr5, hOK3, h⟩ := h r5 M5 hP5
  subst hr5
  refine g_iconst (q0 := 9) rfl dX11_childless_8 (k := ?_)
  refine g_istore_n (q0 := 10) (j := 1) (lv2 := [_, _, _]) rfl dX11_childless_9 (by decide) rfl rfl ?_
  exact h
-- ==== X11_greatestGeneration
theorem dX11_greatestGeneration_0 : decode cX11_greatestGeneration 0 = .ok (.bipush (-2), 2) := by decide +kernel
theorem dX11_greatestGeneration_2 : decode cX11_greatestGeneration 2 = .ok (.istore_n 1, 1) := by decide +kernel
theorem dX11_greatestGeneration_3 : decode cX11_greatestGeneration 3 = .ok (.iconst 0, 1) := by decide +kernel
theorem dX11_greatestGeneration_4 : decode cX11_greatestGeneration 4 = .ok (.istore_n 2, 1) := by decide +kernel
theorem dX11_greatestGeneration_5 : decode cX11_greatestGeneration 5 = .ok (.iload_n 2, 1) := by decide +kernel
theorem dX11_greatestGeneration_6 : decode cX11_greatestGeneration 6 = .ok (.aload_n 0, 1) := by decide +kernel
theorem dX11_greatestGeneration_7 : decode cX11_greatestGeneration 7 = .ok (.getfield 27, 3) := by decide +kernel
theorem dX11_greatestGeneration_10 : decode cX11_greatestGeneration 10 = .ok (.getfield 135, 3) := by decide +kernel
theorem dX11_greatestGeneration_13 : decode cX11_greatestGeneration 13 = .ok (.if_icmp .ge 35, 3) := by decide +kernel
theorem dX11_greatestGeneration_16 : decode cX11_greatestGeneration 16 = .ok (.aload_n 0, 1) := by decide +kernel
theorem dX11_greatestGeneration_17 : decode cX11_greatestGeneration 17 = .ok (.getfield 74, 3) := by decide +kernel
theorem dX11_greatestGeneration_20 : decode cX11_greatestGeneration 20 = .ok (.iconst 0, 1) := by decide +kernel
theorem dX11_greatestGeneration_21 : decode cX11_greatestGeneration 21 = .ok (.iload_n 2, 1) := by decide +kernel
theorem dX11_greatestGeneration_22 : decode cX11_greatestGeneration 22 = .ok (.invokevirtual 365, 3) := by decide +kernel
theorem dX11_greatestGeneration_25 : decode cX11_greatestGeneration 25 = .ok (.ifCond .eq 17, 3) := by decide +kernel
theorem dX11_greatestGeneration_28 : decode cX11_greatestGeneration 28 = .ok (.iload_n 1, 1) := by decide +kernel
theorem dX11_greatestGeneration_29 : decode cX11_greatestGeneration 29 = .ok (.aload_n 0, 1) := by decide +kernel
theorem dX11_greatestGeneration_30 : decode cX11_greatestGeneration 30 = .ok (.getfield 27, 3) := by decide +kernel
theorem dX11_greatestGeneration_33 : decode cX11_greatestGeneration 33 = .ok (.getfield 301, 3) := by decide +kernel
theorem dX11_greatestGeneration_36 : decode cX11_greatestGeneration 36 = .ok (.iload_n 2, 1) := by decide +kernel
theorem dX11_greatestGeneration_37 : decode cX11_greatestGeneration 37 = .ok (.iaload, 1) := by decide +kernel
theorem dX11_greatestGeneration_38 : decode cX11_greatestGeneration 38 = .ok (.invokestatic 510, 3) := by decide +kernel
theorem dX11_greatestGeneration_41 : decode cX11_greatestGeneration 41 = .ok (.istore_n 1, 1) := by decide +kernel
theorem dX11_greatestGeneration_42 : decode cX11_greatestGeneration 42 = .ok (.iinc 2 1, 3) := by decide +kernel
theorem dX11_greatestGeneration_45 : decode cX11_greatestGeneration 45 = .ok (.goto (-40), 3) := by decide +kernel
theorem dX11_greatestGeneration_48 : decode cX11_greatestGeneration 48 = .ok (.iload_n 1, 1) := by decide +kernel
theorem dX11_greatestGeneration_49 : decode cX11_greatestGeneration 49 = .ok (.ireturn, 1) := by decide +kernel
def P_X11_greatestGeneration_5 (sh : gS) (Q : Option gV → gS → gM → Prop) (x1 x2 : Int) (M : gM) : Prop := gA (gr 1 22) yX11_greatestGeneration cX11_greatestGeneration 3 (some (.int)) Q (0, 0) 5 [(4, 0), (0, x1), (0, x2)] [] sh M
theorem w_X11_greatestGeneration_5 {sh : gS} {Q : Option gV → gS → gM → Prop} {x1 x2 : Int} {M : gM} (hOK : gOK sh M) (h : (if x2 < (M 4 0) then
    (∃ v22 : Int, gC (gr 0 0) yX3_has cX3_has 3 (some (.boolean)) [(4, 470), (0, 0), (0, x2)] sh M (gPp sh M (0, v22)) ∧
      (if v22 = 0 then
        (P_X11_greatestGeneration_5 sh Q x1 (gw32 (x2 + 1)) M)
      else
        ((0 ≤ x2 ∧ x2 < 120) ∧
          (P_X11_greatestGeneration_5 sh Q (if x1 < (M 13 x2) then (M 13 x2) else x1) (gw32 (x2 + 1)) M))))
  else
    (Q (some (0, x1)) sh M))) : P_X11_greatestGeneration_5 sh Q x1 x2 M := by
  unfold P_X11_greatestGeneration_5
  refine g_iload_n (q0 := 6) (j := 2) rfl dX11_greatestGeneration_5 rfl ?_
  refine g_aload_n (q0 := 7) (j := 0) rfl dX11_greatestGeneration_6 rfl ?_
  refine g_getp (q0 := 10) (b := 4) rfl ff_X11_27 dX11_greatestGeneration_7 rfl hOK (by decide) (sh_0 hOK) rfl (by decide) ?_
  refine g_getf (q0 := 13) (t := 0) (fi := 0) rfl rfl ff_X11_135 dX11_greatestGeneration_10 rfl (sh_4 hOK) ?_
  refine g_icmp_ge (q0 := 16) (tgt := 48) rfl dX11_greatestGeneration_13 (by decide) (fun h13 => ?_) (fun h13 => ?_)
  · replace h := wI_neg (Int.not_lt.mpr h13) h
    refine g_iload_n (q0 := 49) (j := 1) rfl dX11_greatestGeneration_48 rfl ?_
    exact g_ireturn dX11_greatestGeneration_49 rfl ⟨Nat.zero_le _, Nat.zero_le _⟩ h
  · replace h := wI_pos h13 h
    refine g_aload_n (q0 := 17) (j := 0) rfl dX11_greatestGeneration_16 rfl ?_
    refine g_getp (q0 := 20) (b := 470) rfl ff_X11_74 dX11_greatestGeneration_17 rfl hOK (by decide) (sh_0 hOK) rfl (by decide) ?_
    refine g_iconst (q0 := 21) rfl dX11_greatestGeneration_20 (k := ?_)
    refine g_iload_n (q0 := 22) (j := 2) rfl dX11_greatestGeneration_21 rfl ?_
    obtain ⟨v22, e22, h⟩ := h
    refine g_callVp (as := [_, _]) (rest := []) mt_X3_has mi_X3_has se_X3_has ml_X11_365 dX11_greatestGeneration_22 (q0 := 25) rfl rfl (sh_470 hOK) rfl rfl e22 rfl ⟨by decide, by decide⟩ (Nat.le_of_ble_eq_true rfl) ⟨Nat.zero_le _, Nat.zero_le _⟩ (fun _ => ?_)
    refine g_if_eq (q0 := 28) (tgt := 42) rfl dX11_greatestGeneration_25 (by decide) (fun h25 => ?_) (fun h25 => ?_)
    · replace h := wI_pos h25 h
      refine g_iincw (q0 := 45) (lv2 := [_, _, _]) rfl dX11_greatestGeneration_42 rfl (by decide) rfl rfl ?_
      refine g_goto (tgt := 5) dX11_greatestGeneration_45 (by decide) ?_
      exact h
    · replace h := wI_neg h25 h
      refine g_iload_n (q0 := 29) (j := 1) rfl dX11_greatestGeneration_28 rfl ?_
      refine g_aload_n (q0 := 30) (j := 0) rfl dX11_greatestGeneration_29 rfl ?_
      refine g_getp (q0 := 33) (b := 4) rfl ff_X11_27 dX11_greatestGeneration_30 rfl hOK (by decide) (sh_0 hOK) rfl (by decide) ?_
      refine g_getp (q0 := 36) (b := 13) rfl ff_X11_301 dX11_greatestGeneration_33 rfl hOK (by decide) (sh_4 hOK) rfl (by decide) ?_
      refine g_iload_n (q0 := 37) (j := 2) rfl dX11_greatestGeneration_36 rfl ?_
      obtain ⟨g1, h⟩ := h
      refine g_iald (q0 := 38) rfl dX11_greatestGeneration_37 (sh_13 hOK) g1.1 g1.2 ?_
      refine g_mmax (q0 := 41) rfl ml_X11_510 ms_J9_max_7cf53 inic_Math mt_J9_max_7cf53.1 dX11_greatestGeneration_38 (by decide) (Nat.le_of_ble_eq_true rfl) ⟨Nat.zero_le _, Nat.zero_le _⟩ ?_
      refine g_istore_n (q0 := 42) (j := 1) (lv2 := [_, _, _]) rfl dX11_greatestGeneration_41 (by decide) rfl rfl ?_
      refine g_iincw (q0 := 45) (lv2 := [_, _, _]) rfl dX11_greatestGeneration_42 rfl (by decide) rfl rfl ?_
      refine g_goto (tgt := 5) dX11_greatestGeneration_45 (by decide) ?_
      exact h
theorem w_X11_greatestGeneration {sh : gS} {Q : Option gV → gS → gM → Prop} {M : gM} (hOK : gOK sh M) (h : (P_X11_greatestGeneration_5 sh Q (-2) 0 M)) : gC (gr 1 22) yX11_greatestGeneration cX11_greatestGeneration 3 (some (.int)) [(4, 0)] sh M Q := by
  refine gC_ofA (lv := [_, _, _]) (by decide +kernel) (Nat.le_of_ble_eq_true rfl) rfl (fun hMw hav => ?_)
  refine g_bipush (q0 := 2) rfl dX11_greatestGeneration_0 (k := ?_)
  refine g_istore_n (q0 := 3) (j := 1) (lv2 := [_, _, _]) rfl dX11_greatestGeneration_2 (by decide) rfl rfl ?_
  refine g_iconst (q0 := 4) rfl dX11_greatestGeneration_3 (k := ?_)
  refine g_istore_n (q0 := 5) (j := 2) (lv2 := [_, _, _]) rfl dX11_greatestGeneration_4 (by decide) rfl rfl ?_
  exact h
-- ==== X11_unlikeTrees
theorem dX11_unlikeTrees_0 : decode cX11_unlikeTrees 0 = .ok (.aload_n 0, 1) := by decide +kernel
theorem dX11_unlikeTrees_1 : decode cX11_unlikeTrees 1 = .ok (.getfield 74, 3) := by decide +kernel
theorem dX11_unlikeTrees_4 : decode cX11_unlikeTrees 4 = .ok (.iconst 1, 1) := by decide +kernel
theorem dX11_unlikeTrees_5 : decode cX11_unlikeTrees 5 = .ok (.invokevirtual 500, 3) := by decide +kernel
theorem dX11_unlikeTrees_8 : decode cX11_unlikeTrees 8 = .ok (.iconst 0, 1) := by decide +kernel
theorem dX11_unlikeTrees_9 : decode cX11_unlikeTrees 9 = .ok (.istore_n 1, 1) := by decide +kernel
theorem dX11_unlikeTrees_10 : decode cX11_unlikeTrees 10 = .ok (.iload_n 1, 1) := by decide +kernel
theorem dX11_unlikeTrees_11 : decode cX11_unlikeTrees 11 = .ok (.aload_n 0, 1) := by decide +kernel
theorem dX11_unlikeTrees_12 : decode cX11_unlikeTrees 12 = .ok (.getfield 27, 3) := by decide +kernel
theorem dX11_unlikeTrees_15 : decode cX11_unlikeTrees 15 = .ok (.getfield 135, 3) := by decide +kernel
theorem dX11_unlikeTrees_18 : decode cX11_unlikeTrees 18 = .ok (.if_icmp .ge 38, 3) := by decide +kernel
theorem dX11_unlikeTrees_21 : decode cX11_unlikeTrees 21 = .ok (.aload_n 0, 1) := by decide +kernel
theorem dX11_unlikeTrees_22 : decode cX11_unlikeTrees 22 = .ok (.getfield 74, 3) := by decide +kernel
theorem dX11_unlikeTrees_25 : decode cX11_unlikeTrees 25 = .ok (.iconst 0, 1) := by decide +kernel
theorem dX11_unlikeTrees_26 : decode cX11_unlikeTrees 26 = .ok (.iload_n 1, 1) := by decide +kernel
theorem dX11_unlikeTrees_27 : decode cX11_unlikeTrees 27 = .ok (.invokevirtual 365, 3) := by decide +kernel
theorem dX11_unlikeTrees_30 : decode cX11_unlikeTrees 30 = .ok (.ifCond .eq 20, 3) := by decide +kernel
theorem dX11_unlikeTrees_33 : decode cX11_unlikeTrees 33 = .ok (.aload_n 0, 1) := by decide +kernel
theorem dX11_unlikeTrees_34 : decode cX11_unlikeTrees 34 = .ok (.getfield 74, 3) := by decide +kernel
theorem dX11_unlikeTrees_37 : decode cX11_unlikeTrees 37 = .ok (.iconst 1, 1) := by decide +kernel
theorem dX11_unlikeTrees_38 : decode cX11_unlikeTrees 38 = .ok (.aload_n 0, 1) := by decide +kernel
theorem dX11_unlikeTrees_39 : decode cX11_unlikeTrees 39 = .ok (.getfield 27, 3) := by decide +kernel
theorem dX11_unlikeTrees_42 : decode cX11_unlikeTrees 42 = .ok (.getfield 515, 3) := by decide +kernel
theorem dX11_unlikeTrees_45 : decode cX11_unlikeTrees 45 = .ok (.iload_n 1, 1) := by decide +kernel
theorem dX11_unlikeTrees_46 : decode cX11_unlikeTrees 46 = .ok (.iaload, 1) := by decide +kernel
theorem dX11_unlikeTrees_47 : decode cX11_unlikeTrees 47 = .ok (.invokevirtual 503, 3) := by decide +kernel
theorem dX11_unlikeTrees_50 : decode cX11_unlikeTrees 50 = .ok (.iinc 1 1, 3) := by decide +kernel
theorem dX11_unlikeTrees_53 : decode cX11_unlikeTrees 53 = .ok (.goto (-43), 3) := by decide +kernel
theorem dX11_unlikeTrees_56 : decode cX11_unlikeTrees 56 = .ok (.aload_n 0, 1) := by decide +kernel
theorem dX11_unlikeTrees_57 : decode cX11_unlikeTrees 57 = .ok (.getfield 74, 3) := by decide +kernel
theorem dX11_unlikeTrees_60 : decode cX11_unlikeTrees 60 = .ok (.iconst 1, 1) := by decide +kernel
theorem dX11_unlikeTrees_61 : decode cX11_unlikeTrees 61 = .ok (.invokevirtual 307, 3) := by decide +kernel
theorem dX11_unlikeTrees_64 : decode cX11_unlikeTrees 64 = .ok (.ireturn, 1) := by decide +kernel
def P_X11_unlikeTrees_10 (sh : gS) (Q : Option gV → gS → gM → Prop) (x1 : Int) (M : gM) : Prop := gA (gr 2 42) yX11_unlikeTrees cX11_unlikeTrees 2 (some (.int)) Q (0, 0) 10 [(4, 0), (0, x1)] [] sh M
theorem w_X11_unlikeTrees_10 {sh : gS} {Q : Option gV → gS → gM → Prop} {x1 : Int} {M : gM} (hOK : gOK sh M) (h : (if x1 < (M 4 0) then
    (∃ v27 : Int, gC (gr 0 0) yX3_has cX3_has 3 (some (.boolean)) [(4, 470), (0, 0), (0, x1)] sh M (gPp sh M (0, v27)) ∧
      (if v27 = 0 then
        (P_X11_unlikeTrees_10 sh Q (gw32 (x1 + 1)) M)
      else
        ((0 ≤ x1 ∧ x1 < 120) ∧
          (∃ P47 : Option gV → gM → Prop, gC (gr 0 0) yX3_put cX3_put 3 none [(4, 470), (0, 1), (0, (M 7 x1))] sh M (gPm sh P47) ∧ ∀ (r47 : Option gV) (M47 : gM), P47 r47 M47 → r47 = none ∧ gOK sh M47 ∧
            (P_X11_unlikeTrees_10 sh Q (gw32 (x1 + 1)) M47)))))
  else
    (∃ v61 : Int, gC (gr 1 21) yX3_size cX3_size 2 (some (.int)) [(4, 470), (0, 1)] sh M (gPp sh M (0, v61)) ∧
      (Q (some (0, v61)) sh M)))) : P_X11_unlikeTrees_10 sh Q x1 M := by
  unfold P_X11_unlikeTrees_10
  refine g_iload_n (q0 := 11) (j := 1) rfl dX11_unlikeTrees_10 rfl ?_
  refine g_aload_n (q0 := 12) (j := 0) rfl dX11_unlikeTrees_11 rfl ?_
  refine g_getp (q0 := 15) (b := 4) rfl ff_X11_27 dX11_unlikeTrees_12 rfl hOK (by decide) (sh_0 hOK) rfl (by decide) ?_
  refine g_getf (q0 := 18) (t := 0) (fi := 0) rfl rfl ff_X11_135 dX11_unlikeTrees_15 rfl (sh_4 hOK) ?_
  refine g_icmp_ge (q0 := 21) (tgt := 56) rfl dX11_unlikeTrees_18 (by decide) (fun h18 => ?_) (fun h18 => ?_)
  · replace h := wI_neg (Int.not_lt.mpr h18) h
    refine g_aload_n (q0 := 57) (j := 0) rfl dX11_unlikeTrees_56 rfl ?_
    refine g_getp (q0 := 60) (b := 470) rfl ff_X11_74 dX11_unlikeTrees_57 rfl hOK (by decide) (sh_0 hOK) rfl (by decide) ?_
    refine g_iconst (q0 := 61) rfl dX11_unlikeTrees_60 (k := ?_)
    obtain ⟨v61, e61, h⟩ := h
    refine g_callVp (as := [_]) (rest := []) mt_X3_size mi_X3_size se_X3_size ml_X11_307 dX11_unlikeTrees_61 (q0 := 64) rfl rfl (sh_470 hOK) rfl rfl e61 rfl ⟨by decide, by decide⟩ (Nat.le_of_ble_eq_true rfl) ⟨Nat.zero_le _, Nat.zero_le _⟩ (fun _ => ?_)
    exact g_ireturn dX11_unlikeTrees_64 rfl ⟨Nat.zero_le _, Nat.zero_le _⟩ h
  · replace h := wI_pos h18 h
    refine g_aload_n (q0 := 22) (j := 0) rfl dX11_unlikeTrees_21 rfl ?_
    refine g_getp (q0 := 25) (b := 470) rfl ff_X11_74 dX11_unlikeTrees_22 rfl hOK (by decide) (sh_0 hOK) rfl (by decide) ?_
    refine g_iconst (q0 := 26) rfl dX11_unlikeTrees_25 (k := ?_)
    refine g_iload_n (q0 := 27) (j := 1) rfl dX11_unlikeTrees_26 rfl ?_
    obtain ⟨v27, e27, h⟩ := h
    refine g_callVp (as := [_, _]) (rest := []) mt_X3_has mi_X3_has se_X3_has ml_X11_365 dX11_unlikeTrees_27 (q0 := 30) rfl rfl (sh_470 hOK) rfl rfl e27 rfl ⟨by decide, by decide⟩ (Nat.le_of_ble_eq_true rfl) ⟨Nat.zero_le _, Nat.zero_le _⟩ (fun _ => ?_)
    refine g_if_eq (q0 := 33) (tgt := 50) rfl dX11_unlikeTrees_30 (by decide) (fun h30 => ?_) (fun h30 => ?_)
    · replace h := wI_pos h30 h
      refine g_iincw (q0 := 53) (lv2 := [_, _]) rfl dX11_unlikeTrees_50 rfl (by decide) rfl rfl ?_
      refine g_goto (tgt := 10) dX11_unlikeTrees_53 (by decide) ?_
      exact h
    · replace h := wI_neg h30 h
      refine g_aload_n (q0 := 34) (j := 0) rfl dX11_unlikeTrees_33 rfl ?_
      refine g_getp (q0 := 37) (b := 470) rfl ff_X11_74 dX11_unlikeTrees_34 rfl hOK (by decide) (sh_0 hOK) rfl (by decide) ?_
      refine g_iconst (q0 := 38) rfl dX11_unlikeTrees_37 (k := ?_)
      refine g_aload_n (q0 := 39) (j := 0) rfl dX11_unlikeTrees_38 rfl ?_
      refine g_getp (q0 := 42) (b := 4) rfl ff_X11_27 dX11_unlikeTrees_39 rfl hOK (by decide) (sh_0 hOK) rfl (by decide) ?_
      refine g_getp (q0 := 45) (b := 7) rfl ff_X11_515 dX11_unlikeTrees_42 rfl hOK (by decide) (sh_4 hOK) rfl (by decide) ?_
      refine g_iload_n (q0 := 46) (j := 1) rfl dX11_unlikeTrees_45 rfl ?_
      obtain ⟨g1, h⟩ := h
      refine g_iald (q0 := 47) rfl dX11_unlikeTrees_46 (sh_7 hOK) g1.1 g1.2 ?_
      obtain ⟨P47, e47, h⟩ := h
      refine g_callVm (as := [_, _]) (rest := []) mt_X3_put mi_X3_put se_X3_put ml_X11_503 dX11_unlikeTrees_47 (q0 := 50) rfl rfl (sh_470 hOK) rfl rfl e47 rfl ⟨by decide, by decide⟩ (Nat.le_of_ble_eq_true rfl) ⟨Nat.zero_le _, Nat.zero_le _⟩ (fun r47 M47 hP47 hw47 hMw47 => ?_)
      obtain ⟨hr47, hOK2, h⟩ := h r47 M47 hP47
      subst hr47
      refine g_iincw (q0 := 53) (lv2 := [_, _]) rfl dX11_unlikeTrees_50 rfl (by decide) rfl rfl ?_
      refine g_goto (tgt := 10) dX11_unlikeTrees_53 (by decide) ?_
      exact h
theorem w_X11_unlikeTrees {sh : gS} {Q : Option gV → gS → gM → Prop} {M : gM} (hOK : gOK sh M) (h : (∃ P5 : Option gV → gM → Prop, gC (gr 0 0) yX3_clear cX3_clear 2 none [(4, 470), (0, 1)] sh M (gPm sh P5) ∧ ∀ (r5 : Option gV) (M5 : gM), P5 r5 M5 → r5 = none ∧ gOK sh M5 ∧
    (P_X11_unlikeTrees_10 sh Q 0 M5))) : gC (gr 2 42) yX11_unlikeTrees cX11_unlikeTrees 2 (some (.int)) [(4, 0)] sh M Q := by
  refine gC_ofA (lv := [_, _]) (by decide +kernel) (Nat.le_of_ble_eq_true rfl) rfl (fun hMw hav => ?_)
  refine g_aload_n (q0 := 1) (j := 0) rfl dX11_unlikeTrees_0 rfl ?_
  refine g_getp (q0 := 4) (b := 470) rfl ff_X11_74 dX11_unlikeTrees_1 rfl hOK (by decide) (sh_0 hOK) rfl (by decide) ?_
  refine g_iconst (q0 := 5) rfl dX11_unlikeTrees_4 (k := ?_)
  obtain ⟨P5, e5, h⟩ := h
  refine g_callVm (as := [_]) (rest := []) mt_X3_clear mi_X3_clear se_X3_clear ml_X11_500 dX11_unlikeTrees_5 (q0 := 8) rfl rfl (sh_470 hOK) rfl rfl e5 rfl ⟨by decide, by decide⟩ (Nat.le_of_ble_eq_true rfl) ⟨Nat.zero_le _, Nat.zero_le _⟩ (fun r5 M5 hP5 hw5 hMw5 => ?_)
  obtain ⟨hr5, hOK3, h⟩ := h r5 M5 hP5
  subst hr5
  refine g_iconst (q0 := 9) rfl dX11_unlikeTrees_8 (k := ?_)
  refine g_istore_n (q0 := 10) (j := 1) (lv2 := [_, _]) rfl dX11_unlikeTrees_9 (by decide) rfl rfl ?_
  exact h
-- ==== X11_listing
theorem dX11_listing_0 : decode cX11_listing 0 = .ok (.iload_n 1, 1) := by decide +kernel
theorem dX11_listing_1 : decode cX11_listing 1 = .ok (.invokestatic 166, 3) := by decide +kernel
theorem dX11_listing_4 : decode cX11_listing 4 = .ok (.ifCond .eq 13, 3) := by decide +kernel
theorem dX11_listing_7 : decode cX11_listing 7 = .ok (.iload_n 2, 1) := by decide +kernel
theorem dX11_listing_8 : decode cX11_listing 8 = .ok (.ifCond .lt 9, 3) := by decide +kernel
theorem dX11_listing_11 : decode cX11_listing 11 = .ok (.iload_n 2, 1) := by decide +kernel
theorem dX11_listing_12 : decode cX11_listing 12 = .ok (.bipush 120, 2) := by decide +kernel
theorem dX11_listing_14 : decode cX11_listing 14 = .ok (.if_icmp .lt 5, 3) := by decide +kernel
theorem dX11_listing_17 : decode cX11_listing 17 = .ok (.iconst (-1), 1) := by decide +kernel
theorem dX11_listing_18 : decode cX11_listing 18 = .ok (.ireturn, 1) := by decide +kernel
theorem dX11_listing_19 : decode cX11_listing 19 = .ok (.aload_n 0, 1) := by decide +kernel
theorem dX11_listing_20 : decode cX11_listing 20 = .ok (.getfield 27, 3) := by decide +kernel
theorem dX11_listing_23 : decode cX11_listing 23 = .ok (.aload_n 0, 1) := by decide +kernel
theorem dX11_listing_24 : decode cX11_listing 24 = .ok (.getfield 37, 3) := by decide +kernel
theorem dX11_listing_27 : decode cX11_listing 27 = .ok (.iload_n 1, 1) := by decide +kernel
theorem dX11_listing_28 : decode cX11_listing 28 = .ok (.aaload, 1) := by decide +kernel
theorem dX11_listing_29 : decode cX11_listing 29 = .ok (.aload_n 0, 1) := by decide +kernel
theorem dX11_listing_30 : decode cX11_listing 30 = .ok (.getfield 74, 3) := by decide +kernel
theorem dX11_listing_33 : decode cX11_listing 33 = .ok (.iconst 0, 1) := by decide +kernel
theorem dX11_listing_34 : decode cX11_listing 34 = .ok (.invokevirtual 361, 3) := by decide +kernel
theorem dX11_listing_37 : decode cX11_listing 37 = .ok (.iload_n 2, 1) := by decide +kernel
theorem dX11_listing_38 : decode cX11_listing 38 = .ok (.aload_n 0, 1) := by decide +kernel
theorem dX11_listing_39 : decode cX11_listing 39 = .ok (.getfield 74, 3) := by decide +kernel
theorem dX11_listing_42 : decode cX11_listing 42 = .ok (.iconst 0, 1) := by decide +kernel
theorem dX11_listing_43 : decode cX11_listing 43 = .ok (.invokevirtual 307, 3) := by decide +kernel
theorem dX11_listing_46 : decode cX11_listing 46 = .ok (.if_icmp .lt 6, 3) := by decide +kernel
theorem dX11_listing_49 : decode cX11_listing 49 = .ok (.bipush (-4), 2) := by decide +kernel
theorem dX11_listing_51 : decode cX11_listing 51 = .ok (.ireturn, 1) := by decide +kernel
theorem dX11_listing_52 : decode cX11_listing 52 = .ok (.aload_n 0, 1) := by decide +kernel
theorem dX11_listing_53 : decode cX11_listing 53 = .ok (.invokevirtual 518, 3) := by decide +kernel
theorem dX11_listing_56 : decode cX11_listing 56 = .ok (.iconst (-1), 1) := by decide +kernel
theorem dX11_listing_57 : decode cX11_listing 57 = .ok (.istore_n 3, 1) := by decide +kernel
theorem dX11_listing_58 : decode cX11_listing 58 = .ok (.iconst 0, 1) := by decide +kernel
theorem dX11_listing_59 : decode cX11_listing 59 = .ok (.istore 4, 2) := by decide +kernel
theorem dX11_listing_61 : decode cX11_listing 61 = .ok (.iload 4, 2) := by decide +kernel
theorem dX11_listing_63 : decode cX11_listing 63 = .ok (.iload_n 2, 1) := by decide +kernel
theorem dX11_listing_64 : decode cX11_listing 64 = .ok (.if_icmp .gt 72, 3) := by decide +kernel
theorem dX11_listing_67 : decode cX11_listing 67 = .ok (.aload_n 0, 1) := by decide +kernel
theorem dX11_listing_68 : decode cX11_listing 68 = .ok (.invokevirtual 521, 3) := by decide +kernel
theorem dX11_listing_71 : decode cX11_listing 71 = .ok (.istore_n 3, 1) := by decide +kernel
theorem dX11_listing_72 : decode cX11_listing 72 = .ok (.iload_n 3, 1) := by decide +kernel
theorem dX11_listing_73 : decode cX11_listing 73 = .ok (.ifCond .ge 6, 3) := by decide +kernel
theorem dX11_listing_76 : decode cX11_listing 76 = .ok (.bipush (-4), 2) := by decide +kernel
theorem dX11_listing_78 : decode cX11_listing 78 = .ok (.ireturn, 1) := by decide +kernel
theorem dX11_listing_79 : decode cX11_listing 79 = .ok (.aload_n 0, 1) := by decide +kernel
theorem dX11_listing_80 : decode cX11_listing 80 = .ok (.getfield 74, 3) := by decide +kernel
theorem dX11_listing_83 : decode cX11_listing 83 = .ok (.iconst 0, 1) := by decide +kernel
theorem dX11_listing_84 : decode cX11_listing 84 = .ok (.iload_n 3, 1) := by decide +kernel
theorem dX11_listing_85 : decode cX11_listing 85 = .ok (.invokevirtual 524, 3) := by decide +kernel
theorem dX11_listing_88 : decode cX11_listing 88 = .ok (.iconst 0, 1) := by decide +kernel
theorem dX11_listing_89 : decode cX11_listing 89 = .ok (.istore 5, 2) := by decide +kernel
theorem dX11_listing_91 : decode cX11_listing 91 = .ok (.iload 5, 2) := by decide +kernel
theorem dX11_listing_93 : decode cX11_listing 93 = .ok (.aload_n 0, 1) := by decide +kernel
theorem dX11_listing_94 : decode cX11_listing 94 = .ok (.getfield 27, 3) := by decide +kernel
theorem dX11_listing_97 : decode cX11_listing 97 = .ok (.getfield 295, 3) := by decide +kernel
theorem dX11_listing_100 : decode cX11_listing 100 = .ok (.iload_n 3, 1) := by decide +kernel
theorem dX11_listing_101 : decode cX11_listing 101 = .ok (.iaload, 1) := by decide +kernel
theorem dX11_listing_102 : decode cX11_listing 102 = .ok (.if_icmp .ge 28, 3) := by decide +kernel
theorem dX11_listing_105 : decode cX11_listing 105 = .ok (.aload_n 0, 1) := by decide +kernel
theorem dX11_listing_106 : decode cX11_listing 106 = .ok (.getfield 78, 3) := by decide +kernel
theorem dX11_listing_109 : decode cX11_listing 109 = .ok (.aload_n 0, 1) := by decide +kernel
theorem dX11_listing_110 : decode cX11_listing 110 = .ok (.getfield 27, 3) := by decide +kernel
theorem dX11_listing_113 : decode cX11_listing 113 = .ok (.iload_n 3, 1) := by decide +kernel
theorem dX11_listing_114 : decode cX11_listing 114 = .ok (.iload 5, 2) := by decide +kernel
theorem dX11_listing_116 : decode cX11_listing 116 = .ok (.invokevirtual 314, 3) := by decide +kernel
theorem dX11_listing_119 : decode cX11_listing 119 = .ok (.dup2, 1) := by decide +kernel
theorem dX11_listing_120 : decode cX11_listing 120 = .ok (.iaload, 1) := by decide +kernel
theorem dX11_listing_121 : decode cX11_listing 121 = .ok (.iconst 1, 1) := by decide +kernel
theorem dX11_listing_122 : decode cX11_listing 122 = .ok (.isub, 1) := by decide +kernel
theorem dX11_listing_123 : decode cX11_listing 123 = .ok (.iastore, 1) := by decide +kernel
theorem dX11_listing_124 : decode cX11_listing 124 = .ok (.iinc 5 1, 3) := by decide +kernel
theorem dX11_listing_127 : decode cX11_listing 127 = .ok (.goto (-36), 3) := by decide +kernel
theorem dX11_listing_130 : decode cX11_listing 130 = .ok (.iinc 4 1, 3) := by decide +kernel
theorem dX11_listing_133 : decode cX11_listing 133 = .ok (.goto (-72), 3) := by decide +kernel
theorem dX11_listing_136 : decode cX11_listing 136 = .ok (.iload_n 3, 1) := by decide +kernel
theorem dX11_listing_137 : decode cX11_listing 137 = .ok (.ireturn, 1) := by decide +kernel
def P_X11_listing_61 (sh : gS) (Q : Option gV → gS → gM → Prop) (x1 x2 x3 x4 : Int) (M : gM) : Prop := gA (gr 2 47) yX11_listing cX11_listing 6 (some (.int)) Q (0, 0) 61 [(4, 0), (0, x1), (0, x2), (0, x3), (0, x4), (9, 0)] [] sh M
def P_X11_listing_91 (sh : gS) (Q : Option gV → gS → gM → Prop) (x1 x2 x3 x4 x5 : Int) (M : gM) : Prop := gA (gr 2 47) yX11_listing cX11_listing 6 (some (.int)) Q (0, 0) 91 [(4, 0), (0, x1), (0, x2), (0, x3), (0, x4), (0, x5)] [] sh M
theorem w_X11_listing_61 {sh : gS} {Q : Option gV → gS → gM → Prop} {x1 x2 x3 x4 : Int} {M : gM} (hOK : gOK sh M) (h : (if x2 < x4 then
    (Q (some (0, x3)) sh M)
  else
    (∃ v68 : Int, gC (gr 1 22) yX11_nextListed cX11_nextListed 4 (some (.int)) [(4, 0)] sh M (gPp sh M (0, v68)) ∧
      (if v68 < 0 then
        (Q (some (0, -4)) sh M)
      else
        (∃ P85 : Option gV → gM → Prop, gC (gr 0 0) yX3_cut cX3_cut 3 none [(4, 470), (0, 0), (0, v68)] sh M (gPm sh P85) ∧ ∀ (r85 : Option gV) (M85 : gM), P85 r85 M85 → r85 = none ∧ gOK sh M85 ∧
          (P_X11_listing_91 sh Q x1 x2 v68 x4 0 M85)))))) : P_X11_listing_61 sh Q x1 x2 x3 x4 M := by
  unfold P_X11_listing_61
  refine g_iload (q0 := 63) (j := 4) rfl dX11_listing_61 rfl ?_
  refine g_iload_n (q0 := 64) (j := 2) rfl dX11_listing_63 rfl ?_
  refine g_icmp_gt (q0 := 67) (tgt := 136) rfl dX11_listing_64 (by decide) (fun h64 => ?_) (fun h64 => ?_)
  · replace h := wI_pos h64 h
    refine g_iload_n (q0 := 137) (j := 3) rfl dX11_listing_136 rfl ?_
    exact g_ireturn dX11_listing_137 rfl ⟨Nat.zero_le _, Nat.zero_le _⟩ h
  · replace h := wI_neg (Int.not_lt.mpr h64) h
    refine g_aload_n (q0 := 68) (j := 0) rfl dX11_listing_67 rfl ?_
    obtain ⟨v68, e68, h⟩ := h
    refine g_callVp (as := []) (rest := []) mt_X11_nextListed mi_X11_nextListed se_X11_nextListed ml_X11_521 dX11_listing_68 (q0 := 71) rfl rfl (sh_0 hOK) rfl rfl e68 rfl ⟨by decide, by decide⟩ (Nat.le_of_ble_eq_true rfl) ⟨Nat.zero_le _, Nat.zero_le _⟩ (fun _ => ?_)
    refine g_istore_n (q0 := 72) (j := 3) (lv2 := [_, _, _, _, _, _]) rfl dX11_listing_71 (by decide) rfl rfl ?_
    refine g_iload_n (q0 := 73) (j := 3) rfl dX11_listing_72 rfl ?_
    refine g_if_ge (q0 := 76) (tgt := 79) rfl dX11_listing_73 (by decide) (fun h73 => ?_) (fun h73 => ?_)
    · replace h := wI_neg (Int.not_lt.mpr h73) h
      refine g_aload_n (q0 := 80) (j := 0) rfl dX11_listing_79 rfl ?_
      refine g_getp (q0 := 83) (b := 470) rfl ff_X11_74 dX11_listing_80 rfl hOK (by decide) (sh_0 hOK) rfl (by decide) ?_
      refine g_iconst (q0 := 84) rfl dX11_listing_83 (k := ?_)
      refine g_iload_n (q0 := 85) (j := 3) rfl dX11_listing_84 rfl ?_
      obtain ⟨P85, e85, h⟩ := h
      refine g_callVm (as := [_, _]) (rest := []) mt_X3_cut mi_X3_cut se_X3_cut ml_X11_524 dX11_listing_85 (q0 := 88) rfl rfl (sh_470 hOK) rfl rfl e85 rfl ⟨by decide, by decide⟩ (Nat.le_of_ble_eq_true rfl) ⟨Nat.zero_le _, Nat.zero_le _⟩ (fun r85 M85 hP85 hw85 hMw85 => ?_)
      obtain ⟨hr85, hOK1, h⟩ := h r85 M85 hP85
      subst hr85
      refine g_iconst (q0 := 89) rfl dX11_listing_88 (k := ?_)
      refine g_istore (q0 := 91) (j := 5) (lv2 := [_, _, _, _, _, _]) rfl dX11_listing_89 (by decide) rfl rfl ?_
      exact h
    · replace h := wI_pos h73 h
      refine g_bipush (q0 := 78) rfl dX11_listing_76 (k := ?_)
      exact g_ireturn dX11_listing_78 rfl ⟨Nat.zero_le _, Nat.zero_le _⟩ h
theorem w_X11_listing_91 {sh : gS} {Q : Option gV → gS → gM → Prop} {x1 x2 x3 x4 x5 : Int} {M : gM} (hOK : gOK sh M) (h : ((0 ≤ x3 ∧ x3 < 120) ∧
    (if x5 < (M 5 x3) then
      (∃ v116 : Int, gC (gr 0 0) yX1_parent cX1_parent 3 (some (.int)) [(4, 4), (0, x3), (0, x5)] sh M (gPp sh M (0, v116)) ∧
        ((0 ≤ v116 ∧ v116 < 120) ∧
          (P_X11_listing_91 sh Q x1 x2 x3 x4 (gw32 (x5 + 1)) (gU M 473 v116 (gw32 ((M 473 v116) - (1 : Int)))))))
    else
      (P_X11_listing_61 sh Q x1 x2 x3 (gw32 (x4 + 1)) M)))) : P_X11_listing_91 sh Q x1 x2 x3 x4 x5 M := by
  unfold P_X11_listing_91
  refine g_iload (q0 := 93) (j := 5) rfl dX11_listing_91 rfl ?_
  refine g_aload_n (q0 := 94) (j := 0) rfl dX11_listing_93 rfl ?_
  refine g_getp (q0 := 97) (b := 4) rfl ff_X11_27 dX11_listing_94 rfl hOK (by decide) (sh_0 hOK) rfl (by decide) ?_
  refine g_getp (q0 := 100) (b := 5) rfl ff_X11_295 dX11_listing_97 rfl hOK (by decide) (sh_4 hOK) rfl (by decide) ?_
  refine g_iload_n (q0 := 101) (j := 3) rfl dX11_listing_100 rfl ?_
  obtain ⟨g2, h⟩ := h
  refine g_iald (q0 := 102) rfl dX11_listing_101 (sh_5 hOK) g2.1 g2.2 ?_
  refine g_icmp_ge (q0 := 105) (tgt := 130) rfl dX11_listing_102 (by decide) (fun h102 => ?_) (fun h102 => ?_)
  · replace h := wI_neg (Int.not_lt.mpr h102) h
    refine g_iincw (q0 := 133) (lv2 := [_, _, _, _, _, _]) rfl dX11_listing_130 rfl (by decide) rfl rfl ?_
    refine g_goto (tgt := 61) dX11_listing_133 (by decide) ?_
    refine gA_jk (lv1 := [_, _, _, _, _, (9, 0)]) ⟨.inl rfl, .inl rfl, .inl rfl, .inl rfl, .inl rfl, .inr rfl, trivial⟩ ?_
    exact h
  · replace h := wI_pos h102 h
    refine g_aload_n (q0 := 106) (j := 0) rfl dX11_listing_105 rfl ?_
    refine g_getp (q0 := 109) (b := 473) rfl ff_X11_78 dX11_listing_106 rfl hOK (by decide) (sh_0 hOK) rfl (by decide) ?_
    refine g_aload_n (q0 := 110) (j := 0) rfl dX11_listing_109 rfl ?_
    refine g_getp (q0 := 113) (b := 4) rfl ff_X11_27 dX11_listing_110 rfl hOK (by decide) (sh_0 hOK) rfl (by decide) ?_
    refine g_iload_n (q0 := 114) (j := 3) rfl dX11_listing_113 rfl ?_
    refine g_iload (q0 := 116) (j := 5) rfl dX11_listing_114 rfl ?_
    obtain ⟨v116, e116, h⟩ := h
    refine g_callVp (as := [_, _]) (rest := [_]) mt_X1_parent mi_X1_parent se_X1_parent ml_X11_314 dX11_listing_116 (q0 := 119) rfl rfl (sh_4 hOK) rfl rfl e116 rfl ⟨by decide, by decide⟩ (Nat.le_of_ble_eq_true rfl) ⟨Nat.zero_le _, Nat.zero_le _⟩ (fun _ => ?_)
    refine g_dup2 (q0 := 120) rfl dX11_listing_119 (k := ?_)
    obtain ⟨g3, h⟩ := h
    refine g_iald (q0 := 121) rfl dX11_listing_120 (sh_473 hOK) g3.1 g3.2 ?_
    refine g_iconst (q0 := 122) rfl dX11_listing_121 (k := ?_)
    refine g_isubw (q0 := 123) rfl dX11_listing_122 ?_
    refine g_iast (q0 := 124) rfl dX11_listing_123 (sh_473 hOK) g3.1 g3.2 ?_
    have hOK4 : gOK sh (gU M 473 v116 (gw32 ((M 473 v116) - (1 : Int)))) := gOK_i hOK (sh_473 hOK)
    refine g_iincw (q0 := 127) (lv2 := [_, _, _, _, _, _]) rfl dX11_listing_124 rfl (by decide) rfl rfl ?_
    refine g_goto (tgt := 91) dX11_listing_127 (by decide) ?_
    exact h
theorem w_X11_listing {sh : gS} {Q : Option gV → gS → gM → Prop} {a1 a2 : Int} {M : gM} (hOK : gOK sh M) (h : (∃ v1 : Int, gC (gr 0 0) yX11_isHistory cX11_isHistory 1 (some (.boolean)) [(0, a1)] sh M (gPp sh M (0, v1)) ∧
    (if v1 = 0 then
      (Q (some (0, -1)) sh M)
    else
      (if a2 < 0 then
        (Q (some (0, -1)) sh M)
      else
        (if a2 < 120 then
          ((0 ≤ a1 ∧ a1 < 4) ∧
            (∃ P34 : Option gV → gM → Prop, gC (gr 1 23) yX1_markHistory cX1_markHistory 5 none [(4, 4), (4, (479 + 10 * a1)), (4, 470), (0, 0)] sh M (gPm sh P34) ∧ ∀ (r34 : Option gV) (M34 : gM), P34 r34 M34 → r34 = none ∧ gOK sh M34 ∧
              (∃ v43 : Int, gC (gr 1 21) yX3_size cX3_size 2 (some (.int)) [(4, 470), (0, 0)] sh M34 (gPp sh M34 (0, v43)) ∧
                (if a2 < v43 then
                  (∃ P53 : Option gV → gM → Prop, gC (gr 1 23) yX11_countChildren cX11_countChildren 3 none [(4, 0)] sh M34 (gPm sh P53) ∧ ∀ (r53 : Option gV) (M53 : gM), P53 r53 M53 → r53 = none ∧ gOK sh M53 ∧
                    (P_X11_listing_61 sh Q a1 a2 (-1) 0 M53))
                else
                  (Q (some (0, -4)) sh M34)))))
        else
          (Q (some (0, -1)) sh M)))))) : gC (gr 2 47) yX11_listing cX11_listing 6 (some (.int)) [(4, 0), (0, a1), (0, a2)] sh M Q := by
  refine gC_ofA (lv := [_, _, _, _, _, _]) (by decide +kernel) (Nat.le_of_ble_eq_true rfl) rfl (fun hMw hav => ?_)
  refine g_iload_n (q0 := 1) (j := 1) rfl dX11_listing_0 rfl ?_
  obtain ⟨v1, e1, h⟩ := h
  refine g_callSp (as := [_]) (rest := []) mt_X11_isHistory ms_X11_isHistory ml_X11_166 dX11_listing_1 (q0 := 4) rfl rfl e1 rfl ⟨by decide, by decide⟩ (Nat.le_of_ble_eq_true rfl) ⟨Nat.zero_le _, Nat.zero_le _⟩ (fun _ => ?_)
  refine g_if_eq (q0 := 7) (tgt := 17) rfl dX11_listing_4 (by decide) (fun h4 => ?_) (fun h4 => ?_)
  · replace h := wI_pos h4 h
    refine g_iconst (q0 := 18) rfl dX11_listing_17 (k := ?_)
    exact g_ireturn dX11_listing_18 rfl ⟨Nat.zero_le _, Nat.zero_le _⟩ h
  · replace h := wI_neg h4 h
    refine g_iload_n (q0 := 8) (j := 2) rfl dX11_listing_7 rfl ?_
    refine g_if_lt (q0 := 11) (tgt := 17) rfl dX11_listing_8 (by decide) (fun h8 => ?_) (fun h8 => ?_)
    · replace h := wI_pos h8 h
      refine g_iconst (q0 := 18) rfl dX11_listing_17 (k := ?_)
      exact g_ireturn dX11_listing_18 rfl ⟨Nat.zero_le _, Nat.zero_le _⟩ h
    · replace h := wI_neg (Int.not_lt.mpr h8) h
      refine g_iload_n (q0 := 12) (j := 2) rfl dX11_listing_11 rfl ?_
      refine g_bipush (q0 := 14) rfl dX11_listing_12 (k := ?_)
      refine g_icmp_lt (q0 := 17) (tgt := 19) rfl dX11_listing_14 (by decide) (fun h14 => ?_) (fun h14 => ?_)
      · replace h := wI_pos h14 h
        refine g_aload_n (q0 := 20) (j := 0) rfl dX11_listing_19 rfl ?_
        refine g_getp (q0 := 23) (b := 4) rfl ff_X11_27 dX11_listing_20 rfl hOK (by decide) (sh_0 hOK) rfl (by decide) ?_
        refine g_aload_n (q0 := 24) (j := 0) rfl dX11_listing_23 rfl ?_
        refine g_getp (q0 := 27) (b := 408) rfl ff_X11_37 dX11_listing_24 rfl hOK (by decide) (sh_0 hOK) rfl (by decide) ?_
        refine g_iload_n (q0 := 28) (j := 1) rfl dX11_listing_27 rfl ?_
        obtain ⟨g5, h⟩ := h
        refine g_aald (q0 := 29) (q := 1) rfl dX11_listing_28 (sh_408 hOK) rfl g5.1 g5.2 ?_
        rw [(hOK.2.2.2 _ g5.1 g5.2).1]
        refine g_aload_n (q0 := 30) (j := 0) rfl dX11_listing_29 rfl ?_
        refine g_getp (q0 := 33) (b := 470) rfl ff_X11_74 dX11_listing_30 rfl hOK (by decide) (sh_0 hOK) rfl (by decide) ?_
        refine g_iconst (q0 := 34) rfl dX11_listing_33 (k := ?_)
        obtain ⟨P34, e34, h⟩ := h
        refine g_callVm (as := [_, _, _]) (rest := []) mt_X1_markHistory mi_X1_markHistory se_X1_markHistory ml_X11_361 dX11_listing_34 (q0 := 37) rfl rfl (sh_4 hOK) rfl rfl e34 rfl ⟨by decide, by decide⟩ (Nat.le_of_ble_eq_true rfl) ⟨Nat.zero_le _, Nat.zero_le _⟩ (fun r34 M34 hP34 hw34 hMw34 => ?_)
        obtain ⟨hr34, hOK6, h⟩ := h r34 M34 hP34
        subst hr34
        refine g_iload_n (q0 := 38) (j := 2) rfl dX11_listing_37 rfl ?_
        refine g_aload_n (q0 := 39) (j := 0) rfl dX11_listing_38 rfl ?_
        refine g_getp (q0 := 42) (b := 470) rfl ff_X11_74 dX11_listing_39 rfl hOK6 (by decide) (sh_0 hOK6) rfl (by decide) ?_
        refine g_iconst (q0 := 43) rfl dX11_listing_42 (k := ?_)
        obtain ⟨v43, e43, h⟩ := h
        refine g_callVp (as := [_]) (rest := [_]) mt_X3_size mi_X3_size se_X3_size ml_X11_307 dX11_listing_43 (q0 := 46) rfl rfl (sh_470 hOK6) rfl rfl e43 rfl ⟨by decide, by decide⟩ (Nat.le_of_ble_eq_true rfl) ⟨Nat.zero_le _, Nat.zero_le _⟩ (fun _ => ?_)
        refine g_icmp_lt (q0 := 49) (tgt := 52) rfl dX11_listing_46 (by decide) (fun h46 => ?_) (fun h46 => ?_)
        · replace h := wI_pos h46 h
          refine g_aload_n (q0 := 53) (j := 0) rfl dX11_listing_52 rfl ?_
          obtain ⟨P53, e53, h⟩ := h
          refine g_callVm (as := []) (rest := []) mt_X11_countChildren mi_X11_countChildren se_X11_countChildren ml_X11_518 dX11_listing_53 (q0 := 56) rfl rfl (sh_0 hOK6) rfl rfl e53 rfl ⟨by decide, by decide⟩ (Nat.le_of_ble_eq_true rfl) ⟨Nat.zero_le _, Nat.zero_le _⟩ (fun r53 M53 hP53 hw53 hMw53 => ?_)
          obtain ⟨hr53, hOK7, h⟩ := h r53 M53 hP53
          subst hr53
          refine g_iconst (q0 := 57) rfl dX11_listing_56 (k := ?_)
          refine g_istore_n (q0 := 58) (j := 3) (lv2 := [_, _, _, _, _, _]) rfl dX11_listing_57 (by decide) rfl rfl ?_
          refine g_iconst (q0 := 59) rfl dX11_listing_58 (k := ?_)
          refine g_istore (q0 := 61) (j := 4) (lv2 := [_, _, _, _, _, _]) rfl dX11_listing_59 (by decide) rfl rfl ?_
          exact h
        · replace h := wI_neg (Int.not_lt.mpr h46) h
          refine g_bipush (q0 := 51) rfl dX11_listing_49 (k := ?_)
          exact g_ireturn dX11_listing_51 rfl ⟨Nat.zero_le _, Nat.zero_le _⟩ h
      · replace h := wI_neg (Int.not_lt.mpr h14) h
        refine g_iconst (q0 := 18) rfl dX11_listing_17 (k := ?_)
        exact g_ireturn dX11_listing_18 rfl ⟨Nat.zero_le _, Nat.zero_le _⟩ h
-- ==== X11_countChildren
theorem dX11_countChildren_0 : decode cX11_countChildren 0 = .ok (.aload_n 0, 1) := by decide +kernel
theorem dX11_countChildren_1 : decode cX11_countChildren 1 = .ok (.getfield 78, 3) := by decide +kernel
theorem dX11_countChildren_4 : decode cX11_countChildren 4 = .ok (.iconst 0, 1) := by decide +kernel
theorem dX11_countChildren_5 : decode cX11_countChildren 5 = .ok (.invokestatic 527, 3) := by decide +kernel
theorem dX11_countChildren_8 : decode cX11_countChildren 8 = .ok (.iconst 0, 1) := by decide +kernel
theorem dX11_countChildren_9 : decode cX11_countChildren 9 = .ok (.istore_n 1, 1) := by decide +kernel
theorem dX11_countChildren_10 : decode cX11_countChildren 10 = .ok (.iload_n 1, 1) := by decide +kernel
theorem dX11_countChildren_11 : decode cX11_countChildren 11 = .ok (.aload_n 0, 1) := by decide +kernel
theorem dX11_countChildren_12 : decode cX11_countChildren 12 = .ok (.getfield 27, 3) := by decide +kernel
theorem dX11_countChildren_15 : decode cX11_countChildren 15 = .ok (.getfield 135, 3) := by decide +kernel
theorem dX11_countChildren_18 : decode cX11_countChildren 18 = .ok (.if_icmp .ge 60, 3) := by decide +kernel
theorem dX11_countChildren_21 : decode cX11_countChildren 21 = .ok (.iconst 0, 1) := by decide +kernel
theorem dX11_countChildren_22 : decode cX11_countChildren 22 = .ok (.istore_n 2, 1) := by decide +kernel
theorem dX11_countChildren_23 : decode cX11_countChildren 23 = .ok (.aload_n 0, 1) := by decide +kernel
theorem dX11_countChildren_24 : decode cX11_countChildren 24 = .ok (.getfield 74, 3) := by decide +kernel
theorem dX11_countChildren_27 : decode cX11_countChildren 27 = .ok (.iconst 0, 1) := by decide +kernel
theorem dX11_countChildren_28 : decode cX11_countChildren 28 = .ok (.iload_n 1, 1) := by decide +kernel
theorem dX11_countChildren_29 : decode cX11_countChildren 29 = .ok (.invokevirtual 365, 3) := by decide +kernel
theorem dX11_countChildren_32 : decode cX11_countChildren 32 = .ok (.ifCond .eq 40, 3) := by decide +kernel
theorem dX11_countChildren_35 : decode cX11_countChildren 35 = .ok (.iload_n 2, 1) := by decide +kernel
theorem dX11_countChildren_36 : decode cX11_countChildren 36 = .ok (.aload_n 0, 1) := by decide +kernel
theorem dX11_countChildren_37 : decode cX11_countChildren 37 = .ok (.getfield 27, 3) := by decide +kernel
theorem dX11_countChildren_40 : decode cX11_countChildren 40 = .ok (.getfield 295, 3) := by decide +kernel
theorem dX11_countChildren_43 : decode cX11_countChildren 43 = .ok (.iload_n 1, 1) := by decide +kernel
theorem dX11_countChildren_44 : decode cX11_countChildren 44 = .ok (.iaload, 1) := by decide +kernel
theorem dX11_countChildren_45 : decode cX11_countChildren 45 = .ok (.if_icmp .ge 27, 3) := by decide +kernel
theorem dX11_countChildren_48 : decode cX11_countChildren 48 = .ok (.aload_n 0, 1) := by decide +kernel
theorem dX11_countChildren_49 : decode cX11_countChildren 49 = .ok (.getfield 78, 3) := by decide +kernel
theorem dX11_countChildren_52 : decode cX11_countChildren 52 = .ok (.aload_n 0, 1) := by decide +kernel
theorem dX11_countChildren_53 : decode cX11_countChildren 53 = .ok (.getfield 27, 3) := by decide +kernel
theorem dX11_countChildren_56 : decode cX11_countChildren 56 = .ok (.iload_n 1, 1) := by decide +kernel
theorem dX11_countChildren_57 : decode cX11_countChildren 57 = .ok (.iload_n 2, 1) := by decide +kernel
theorem dX11_countChildren_58 : decode cX11_countChildren 58 = .ok (.invokevirtual 314, 3) := by decide +kernel
theorem dX11_countChildren_61 : decode cX11_countChildren 61 = .ok (.dup2, 1) := by decide +kernel
theorem dX11_countChildren_62 : decode cX11_countChildren 62 = .ok (.iaload, 1) := by decide +kernel
theorem dX11_countChildren_63 : decode cX11_countChildren 63 = .ok (.iconst 1, 1) := by decide +kernel
theorem dX11_countChildren_64 : decode cX11_countChildren 64 = .ok (.iadd, 1) := by decide +kernel
theorem dX11_countChildren_65 : decode cX11_countChildren 65 = .ok (.iastore, 1) := by decide +kernel
theorem dX11_countChildren_66 : decode cX11_countChildren 66 = .ok (.iinc 2 1, 3) := by decide +kernel
theorem dX11_countChildren_69 : decode cX11_countChildren 69 = .ok (.goto (-46), 3) := by decide +kernel
theorem dX11_countChildren_72 : decode cX11_countChildren 72 = .ok (.iinc 1 1, 3) := by decide +kernel
theorem dX11_countChildren_75 : decode cX11_countChildren 75 = .ok (.goto (-65), 3) := by decide +kernel
theorem dX11_countChildren_78 : decode cX11_countChildren 78 = .ok (.return_, 1) := by decide +kernel
def P_X11_countChildren_10 (sh : gS) (Q : Option gV → gS → gM → Prop) (x1 : Int) (M : gM) : Prop := gA (gr 1 23) yX11_countChildren cX11_countChildren 3 none Q (0, 0) 10 [(4, 0), (0, x1), (9, 0)] [] sh M
def P_X11_countChildren_23 (sh : gS) (Q : Option gV → gS → gM → Prop) (x1 x2 : Int) (M : gM) : Prop := gA (gr 1 23) yX11_countChildren cX11_countChildren 3 none Q (0, 0) 23 [(4, 0), (0, x1), (0, x2)] [] sh M
theorem w_X11_countChildren_10 {sh : gS} {Q : Option gV → gS → gM → Prop} {x1 : Int} {M : gM} (hOK : gOK sh M) (h : (if x1 < (M 4 0) then
    (P_X11_countChildren_23 sh Q x1 0 M)
  else
    (Q none sh M))) : P_X11_countChildren_10 sh Q x1 M := by
  unfold P_X11_countChildren_10
  refine g_iload_n (q0 := 11) (j := 1) rfl dX11_countChildren_10 rfl ?_
  refine g_aload_n (q0 := 12) (j := 0) rfl dX11_countChildren_11 rfl ?_
  refine g_getp (q0 := 15) (b := 4) rfl ff_X11_27 dX11_countChildren_12 rfl hOK (by decide) (sh_0 hOK) rfl (by decide) ?_
  refine g_getf (q0 := 18) (t := 0) (fi := 0) rfl rfl ff_X11_135 dX11_countChildren_15 rfl (sh_4 hOK) ?_
  refine g_icmp_ge (q0 := 21) (tgt := 78) rfl dX11_countChildren_18 (by decide) (fun h18 => ?_) (fun h18 => ?_)
  · replace h := wI_neg (Int.not_lt.mpr h18) h
    exact g_return dX11_countChildren_78 rfl ⟨Nat.zero_le _, Nat.zero_le _⟩ h
  · replace h := wI_pos h18 h
    refine g_iconst (q0 := 22) rfl dX11_countChildren_21 (k := ?_)
    refine g_istore_n (q0 := 23) (j := 2) (lv2 := [_, _, _]) rfl dX11_countChildren_22 (by decide) rfl rfl ?_
    exact h
theorem w_X11_countChildren_23 {sh : gS} {Q : Option gV → gS → gM → Prop} {x1 x2 : Int} {M : gM} (hOK : gOK sh M) (h : (∃ v29 : Int, gC (gr 0 0) yX3_has cX3_has 3 (some (.boolean)) [(4, 470), (0, 0), (0, x1)] sh M (gPp sh M (0, v29)) ∧
    (if v29 = 0 then
      (P_X11_countChildren_10 sh Q (gw32 (x1 + 1)) M)
    else
      ((0 ≤ x1 ∧ x1 < 120) ∧
        (if x2 < (M 5 x1) then
          (∃ v58 : Int, gC (gr 0 0) yX1_parent cX1_parent 3 (some (.int)) [(4, 4), (0, x1), (0, x2)] sh M (gPp sh M (0, v58)) ∧
            ((0 ≤ v58 ∧ v58 < 120) ∧
              (P_X11_countChildren_23 sh Q x1 (gw32 (x2 + 1)) (gU M 473 v58 (gw32 ((M 473 v58) + (1 : Int)))))))
        else
          (P_X11_countChildren_10 sh Q (gw32 (x1 + 1)) M)))))) : P_X11_countChildren_23 sh Q x1 x2 M := by
  unfold P_X11_countChildren_23
  refine g_aload_n (q0 := 24) (j := 0) rfl dX11_countChildren_23 rfl ?_
  refine g_getp (q0 := 27) (b := 470) rfl ff_X11_74 dX11_countChildren_24 rfl hOK (by decide) (sh_0 hOK) rfl (by decide) ?_
  refine g_iconst (q0 := 28) rfl dX11_countChildren_27 (k := ?_)
  refine g_iload_n (q0 := 29) (j := 1) rfl dX11_countChildren_28 rfl ?_
  obtain ⟨v29, e29, h⟩ := h
  refine g_callVp (as := [_, _]) (rest := []) mt_X3_has mi_X3_has se_X3_has ml_X11_365 dX11_countChildren_29 (q0 := 32) rfl rfl (sh_470 hOK) rfl rfl e29 rfl ⟨by decide, by decide⟩ (Nat.le_of_ble_eq_true rfl) ⟨Nat.zero_le _, Nat.zero_le _⟩ (fun _ => ?_)
  refine g_if_eq (q0 := 35) (tgt := 72) rfl dX11_countChildren_32 (by decide) (fun h32 => ?_) (fun h32 => ?_)
  · replace h := wI_pos h32 h
    refine g_iincw (q0 := 75) (lv2 := [_, _, _]) rfl dX11_countChildren_72 rfl (by decide) rfl rfl ?_
    refine g_goto (tgt := 10) dX11_countChildren_75 (by decide) ?_
    refine gA_jk (lv1 := [_, _, (9, 0)]) ⟨.inl rfl, .inl rfl, .inr rfl, trivial⟩ ?_
    exact h
  · replace h := wI_neg h32 h
    refine g_iload_n (q0 := 36) (j := 2) rfl dX11_countChildren_35 rfl ?_
    refine g_aload_n (q0 := 37) (j := 0) rfl dX11_countChildren_36 rfl ?_
    refine g_getp (q0 := 40) (b := 4) rfl ff_X11_27 dX11_countChildren_37 rfl hOK (by decide) (sh_0 hOK) rfl (by decide) ?_
    refine g_getp (q0 := 43) (b := 5) rfl ff_X11_295 dX11_countChildren_40 rfl hOK (by decide) (sh_4 hOK) rfl (by decide) ?_
    refine g_iload_n (q0 := 44) (j := 1) rfl dX11_countChildren_43 rfl ?_
    obtain ⟨g1, h⟩ := h
    refine g_iald (q0 := 45) rfl dX11_countChildren_44 (sh_5 hOK) g1.1 g1.2 ?_
    refine g_icmp_ge (q0 := 48) (tgt := 72) rfl dX11_countChildren_45 (by decide) (fun h45 => ?_) (fun h45 => ?_)
    · replace h := wI_neg (Int.not_lt.mpr h45) h
      refine g_iincw (q0 := 75) (lv2 := [_, _, _]) rfl dX11_countChildren_72 rfl (by decide) rfl rfl ?_
      refine g_goto (tgt := 10) dX11_countChildren_75 (by decide) ?_
      refine gA_jk (lv1 := [_, _, (9, 0)]) ⟨.inl rfl, .inl rfl, .inr rfl, trivial⟩ ?_
      exact h
    · replace h := wI_pos h45 h
      refine g_aload_n (q0 := 49) (j := 0) rfl dX11_countChildren_48 rfl ?_
      refine g_getp (q0 := 52) (b := 473) rfl ff_X11_78 dX11_countChildren_49 rfl hOK (by decide) (sh_0 hOK) rfl (by decide) ?_
      refine g_aload_n (q0 := 53) (j := 0) rfl dX11_countChildren_52 rfl ?_
      refine g_getp (q0 := 56) (b := 4) rfl ff_X11_27 dX11_countChildren_53 rfl hOK (by decide) (sh_0 hOK) rfl (by decide) ?_
      refine g_iload_n (q0 := 57) (j := 1) rfl dX11_countChildren_56 rfl ?_
      refine g_iload_n (q0 := 58) (j := 2) rfl dX11_countChildren_57 rfl ?_
      obtain ⟨v58, e58, h⟩ := h
      refine g_callVp (as := [_, _]) (rest := [_]) mt_X1_parent mi_X1_parent se_X1_parent ml_X11_314 dX11_countChildren_58 (q0 := 61) rfl rfl (sh_4 hOK) rfl rfl e58 rfl ⟨by decide, by decide⟩ (Nat.le_of_ble_eq_true rfl) ⟨Nat.zero_le _, Nat.zero_le _⟩ (fun _ => ?_)
      refine g_dup2 (q0 := 62) rfl dX11_countChildren_61 (k := ?_)
      obtain ⟨g2, h⟩ := h
      refine g_iald (q0 := 63) rfl dX11_countChildren_62 (sh_473 hOK) g2.1 g2.2 ?_
      refine g_iconst (q0 := 64) rfl dX11_countChildren_63 (k := ?_)
      refine g_iaddw (q0 := 65) rfl dX11_countChildren_64 ?_
      refine g_iast (q0 := 66) rfl dX11_countChildren_65 (sh_473 hOK) g2.1 g2.2 ?_
      have hOK3 : gOK sh (gU M 473 v58 (gw32 ((M 473 v58) + (1 : Int)))) := gOK_i hOK (sh_473 hOK)
      refine g_iincw (q0 := 69) (lv2 := [_, _, _]) rfl dX11_countChildren_66 rfl (by decide) rfl rfl ?_
      refine g_goto (tgt := 23) dX11_countChildren_69 (by decide) ?_
      exact h
theorem w_X11_countChildren {sh : gS} {Q : Option gV → gS → gM → Prop} {M : gM} (hOK : gOK sh M) (h : (∃ P5 : Option gV → gM → Prop, gC (gr 0 0) yJ7_fill_53178 cJ7_fill_53178 4 none [(4, 473), (0, 0)] sh M (gPm sh P5) ∧ ∀ (r5 : Option gV) (M5 : gM), P5 r5 M5 → r5 = none ∧ gOK sh M5 ∧
    (P_X11_countChildren_10 sh Q 0 M5))) : gC (gr 1 23) yX11_countChildren cX11_countChildren 3 none [(4, 0)] sh M Q := by
  refine gC_ofA (lv := [_, _, _]) (by decide +kernel) (Nat.le_of_ble_eq_true rfl) rfl (fun hMw hav => ?_)
  refine g_aload_n (q0 := 1) (j := 0) rfl dX11_countChildren_0 rfl ?_
  refine g_getp (q0 := 4) (b := 473) rfl ff_X11_78 dX11_countChildren_1 rfl hOK (by decide) (sh_0 hOK) rfl (by decide) ?_
  refine g_iconst (q0 := 5) rfl dX11_countChildren_4 (k := ?_)
  obtain ⟨P5, e5, h⟩ := h
  refine g_callSm (as := [_, _]) (rest := []) mt_J7_fill_53178 ms_J7_fill_53178 ml_X11_527 dX11_countChildren_5 (q0 := 8) rfl rfl e5 rfl ⟨by decide, by decide⟩ (Nat.le_of_ble_eq_true rfl) ⟨Nat.zero_le _, Nat.zero_le _⟩ (fun r5 M5 hP5 hw5 hMw5 => ?_)
  obtain ⟨hr5, hOK4, h⟩ := h r5 M5 hP5
  subst hr5
  refine g_iconst (q0 := 9) rfl dX11_countChildren_8 (k := ?_)
  refine g_istore_n (q0 := 10) (j := 1) (lv2 := [_, _, _]) rfl dX11_countChildren_9 (by decide) rfl rfl ?_
  exact h
-- ==== X11_nextListed
theorem dX11_nextListed_0 : decode cX11_nextListed 0 = .ok (.iconst (-1), 1) := by decide +kernel
theorem dX11_nextListed_1 : decode cX11_nextListed 1 = .ok (.istore_n 1, 1) := by decide +kernel
theorem dX11_nextListed_2 : decode cX11_nextListed 2 = .ok (.iconst 0, 1) := by decide +kernel
theorem dX11_nextListed_3 : decode cX11_nextListed 3 = .ok (.istore_n 2, 1) := by decide +kernel
theorem dX11_nextListed_4 : decode cX11_nextListed 4 = .ok (.iload_n 2, 1) := by decide +kernel
theorem dX11_nextListed_5 : decode cX11_nextListed 5 = .ok (.aload_n 0, 1) := by decide +kernel
theorem dX11_nextListed_6 : decode cX11_nextListed 6 = .ok (.getfield 27, 3) := by decide +kernel
theorem dX11_nextListed_9 : decode cX11_nextListed 9 = .ok (.getfield 135, 3) := by decide +kernel
theorem dX11_nextListed_12 : decode cX11_nextListed 12 = .ok (.if_icmp .ge 67, 3) := by decide +kernel
theorem dX11_nextListed_15 : decode cX11_nextListed 15 = .ok (.aload_n 0, 1) := by decide +kernel
theorem dX11_nextListed_16 : decode cX11_nextListed 16 = .ok (.getfield 74, 3) := by decide +kernel
theorem dX11_nextListed_19 : decode cX11_nextListed 19 = .ok (.iconst 0, 1) := by decide +kernel
theorem dX11_nextListed_20 : decode cX11_nextListed 20 = .ok (.iload_n 2, 1) := by decide +kernel
theorem dX11_nextListed_21 : decode cX11_nextListed 21 = .ok (.invokevirtual 365, 3) := by decide +kernel
theorem dX11_nextListed_24 : decode cX11_nextListed 24 = .ok (.ifCond .eq 16, 3) := by decide +kernel
theorem dX11_nextListed_27 : decode cX11_nextListed 27 = .ok (.aload_n 0, 1) := by decide +kernel
theorem dX11_nextListed_28 : decode cX11_nextListed 28 = .ok (.getfield 78, 3) := by decide +kernel
theorem dX11_nextListed_31 : decode cX11_nextListed 31 = .ok (.iload_n 2, 1) := by decide +kernel
theorem dX11_nextListed_32 : decode cX11_nextListed 32 = .ok (.iaload, 1) := by decide +kernel
theorem dX11_nextListed_33 : decode cX11_nextListed 33 = .ok (.ifCond .ne 7, 3) := by decide +kernel
theorem dX11_nextListed_36 : decode cX11_nextListed 36 = .ok (.iconst 1, 1) := by decide +kernel
theorem dX11_nextListed_37 : decode cX11_nextListed 37 = .ok (.goto 4, 3) := by decide +kernel
theorem dX11_nextListed_40 : decode cX11_nextListed 40 = .ok (.iconst 0, 1) := by decide +kernel
theorem dX11_nextListed_41 : decode cX11_nextListed 41 = .ok (.istore_n 3, 1) := by decide +kernel
theorem dX11_nextListed_42 : decode cX11_nextListed 42 = .ok (.iload_n 3, 1) := by decide +kernel
theorem dX11_nextListed_43 : decode cX11_nextListed 43 = .ok (.ifCond .eq 30, 3) := by decide +kernel
theorem dX11_nextListed_46 : decode cX11_nextListed 46 = .ok (.iload_n 1, 1) := by decide +kernel
theorem dX11_nextListed_47 : decode cX11_nextListed 47 = .ok (.ifCond .lt 24, 3) := by decide +kernel
theorem dX11_nextListed_50 : decode cX11_nextListed 50 = .ok (.aload_n 0, 1) := by decide +kernel
theorem dX11_nextListed_51 : decode cX11_nextListed 51 = .ok (.getfield 27, 3) := by decide +kernel
theorem dX11_nextListed_54 : decode cX11_nextListed 54 = .ok (.getfield 280, 3) := by decide +kernel
theorem dX11_nextListed_57 : decode cX11_nextListed 57 = .ok (.iload_n 2, 1) := by decide +kernel
theorem dX11_nextListed_58 : decode cX11_nextListed 58 = .ok (.iaload, 1) := by decide +kernel
theorem dX11_nextListed_59 : decode cX11_nextListed 59 = .ok (.aload_n 0, 1) := by decide +kernel
theorem dX11_nextListed_60 : decode cX11_nextListed 60 = .ok (.getfield 27, 3) := by decide +kernel
theorem dX11_nextListed_63 : decode cX11_nextListed 63 = .ok (.getfield 280, 3) := by decide +kernel
theorem dX11_nextListed_66 : decode cX11_nextListed 66 = .ok (.iload_n 1, 1) := by decide +kernel
theorem dX11_nextListed_67 : decode cX11_nextListed 67 = .ok (.iaload, 1) := by decide +kernel
theorem dX11_nextListed_68 : decode cX11_nextListed 68 = .ok (.if_icmp .lt 5, 3) := by decide +kernel
theorem dX11_nextListed_71 : decode cX11_nextListed 71 = .ok (.iload_n 2, 1) := by decide +kernel
theorem dX11_nextListed_72 : decode cX11_nextListed 72 = .ok (.istore_n 1, 1) := by decide +kernel
theorem dX11_nextListed_73 : decode cX11_nextListed 73 = .ok (.iinc 2 1, 3) := by decide +kernel
theorem dX11_nextListed_76 : decode cX11_nextListed 76 = .ok (.goto (-72), 3) := by decide +kernel
theorem dX11_nextListed_79 : decode cX11_nextListed 79 = .ok (.iload_n 1, 1) := by decide +kernel
theorem dX11_nextListed_80 : decode cX11_nextListed 80 = .ok (.ireturn, 1) := by decide +kernel
def P_X11_nextListed_4 (sh : gS) (Q : Option gV → gS → gM → Prop) (x1 x2 : Int) (M : gM) : Prop := gA (gr 1 22) yX11_nextListed cX11_nextListed 4 (some (.int)) Q (0, 0) 4 [(4, 0), (0, x1), (0, x2), (9, 0)] [] sh M
def P_X11_nextListed_41 (sh : gS) (Q : Option gV → gS → gM → Prop) (x1 x2 s0 : Int) (M : gM) : Prop := gA (gr 1 22) yX11_nextListed cX11_nextListed 4 (some (.int)) Q (0, 0) 41 [(4, 0), (0, x1), (0, x2), (9, 0)] [(0, s0)] sh M
theorem w_X11_nextListed_4 {sh : gS} {Q : Option gV → gS → gM → Prop} {x1 x2 : Int} {M : gM} (hOK : gOK sh M) (h : (if x2 < (M 4 0) then
    (∃ v21 : Int, gC (gr 0 0) yX3_has cX3_has 3 (some (.boolean)) [(4, 470), (0, 0), (0, x2)] sh M (gPp sh M (0, v21)) ∧
      (if v21 = 0 then
        (P_X11_nextListed_41 sh Q x1 x2 0 M)
      else
        ((0 ≤ x2 ∧ x2 < 120) ∧
          (if (M 473 x2) = 0 then
            (P_X11_nextListed_41 sh Q x1 x2 1 M)
          else
            (P_X11_nextListed_41 sh Q x1 x2 0 M)))))
  else
    (Q (some (0, x1)) sh M))) : P_X11_nextListed_4 sh Q x1 x2 M := by
  unfold P_X11_nextListed_4
  refine g_iload_n (q0 := 5) (j := 2) rfl dX11_nextListed_4 rfl ?_
  refine g_aload_n (q0 := 6) (j := 0) rfl dX11_nextListed_5 rfl ?_
  refine g_getp (q0 := 9) (b := 4) rfl ff_X11_27 dX11_nextListed_6 rfl hOK (by decide) (sh_0 hOK) rfl (by decide) ?_
  refine g_getf (q0 := 12) (t := 0) (fi := 0) rfl rfl ff_X11_135 dX11_nextListed_9 rfl (sh_4 hOK) ?_
  refine g_icmp_ge (q0 := 15) (tgt := 79) rfl dX11_nextListed_12 (by decide) (fun h12 => ?_) (fun h12 => ?_)
  · replace h := wI_neg (Int.not_lt.mpr h12) h
    refine g_iload_n (q0 := 80) (j := 1) rfl dX11_nextListed_79 rfl ?_
    exact g_ireturn dX11_nextListed_80 rfl ⟨Nat.zero_le _, Nat.zero_le _⟩ h
  · replace h := wI_pos h12 h
    refine g_aload_n (q0 := 16) (j := 0) rfl dX11_nextListed_15 rfl ?_
    refine g_getp (q0 := 19) (b := 470) rfl ff_X11_74 dX11_nextListed_16 rfl hOK (by decide) (sh_0 hOK) rfl (by decide) ?_
    refine g_iconst (q0 := 20) rfl dX11_nextListed_19 (k := ?_)
    refine g_iload_n (q0 := 21) (j := 2) rfl dX11_nextListed_20 rfl ?_
    obtain ⟨v21, e21, h⟩ := h
    refine g_callVp (as := [_, _]) (rest := []) mt_X3_has mi_X3_has se_X3_has ml_X11_365 dX11_nextListed_21 (q0 := 24) rfl rfl (sh_470 hOK) rfl rfl e21 rfl ⟨by decide, by decide⟩ (Nat.le_of_ble_eq_true rfl) ⟨Nat.zero_le _, Nat.zero_le _⟩ (fun _ => ?_)
    refine g_if_eq (q0 := 27) (tgt := 40) rfl dX11_nextListed_24 (by decide) (fun h24 => ?_) (fun h24 => ?_)
    · replace h := wI_pos h24 h
      refine g_iconst (q0 := 41) rfl dX11_nextListed_40 (k := ?_)
      exact h
    · replace h := wI_neg h24 h
      refine g_aload_n (q0 := 28) (j := 0) rfl dX11_nextListed_27 rfl ?_
      refine g_getp (q0 := 31) (b := 473) rfl ff_X11_78 dX11_nextListed_28 rfl hOK (by decide) (sh_0 hOK) rfl (by decide) ?_
      refine g_iload_n (q0 := 32) (j := 2) rfl dX11_nextListed_31 rfl ?_
      obtain ⟨g1, h⟩ := h
      refine g_iald (q0 := 33) rfl dX11_nextListed_32 (sh_473 hOK) g1.1 g1.2 ?_
      refine g_if_ne (q0 := 36) (tgt := 40) rfl dX11_nextListed_33 (by decide) (fun h33 => ?_) (fun h33 => ?_)
      · replace h := wI_neg h33 h
        refine g_iconst (q0 := 41) rfl dX11_nextListed_40 (k := ?_)
        exact h
      · replace h := wI_pos h33 h
        refine g_iconst (q0 := 37) rfl dX11_nextListed_36 (k := ?_)
        refine g_goto (tgt := 41) dX11_nextListed_37 (by decide) ?_
        exact h
theorem w_X11_nextListed_41 {sh : gS} {Q : Option gV → gS → gM → Prop} {x1 x2 s0 : Int} {M : gM} (hOK : gOK sh M) (h : (if s0 = 0 then
    (P_X11_nextListed_4 sh Q x1 (gw32 (x2 + 1)) M)
  else
    (if x1 < 0 then
      (P_X11_nextListed_4 sh Q x2 (gw32 (x2 + 1)) M)
    else
      ((0 ≤ x2 ∧ x2 < 120) ∧
        ((0 ≤ x1 ∧ x1 < 120) ∧
          (if (M 12 x2) < (M 12 x1) then
            (P_X11_nextListed_4 sh Q x1 (gw32 (x2 + 1)) M)
          else
            (P_X11_nextListed_4 sh Q x2 (gw32 (x2 + 1)) M))))))) : P_X11_nextListed_41 sh Q x1 x2 s0 M := by
  unfold P_X11_nextListed_41
  refine g_istore_n (q0 := 42) (j := 3) (lv2 := [_, _, _, _]) rfl dX11_nextListed_41 (by decide) rfl rfl ?_
  refine g_iload_n (q0 := 43) (j := 3) rfl dX11_nextListed_42 rfl ?_
  refine g_if_eq (q0 := 46) (tgt := 73) rfl dX11_nextListed_43 (by decide) (fun h43 => ?_) (fun h43 => ?_)
  · replace h := wI_pos h43 h
    refine g_iincw (q0 := 76) (lv2 := [_, _, _, _]) rfl dX11_nextListed_73 rfl (by decide) rfl rfl ?_
    refine g_goto (tgt := 4) dX11_nextListed_76 (by decide) ?_
    refine gA_jk (lv1 := [_, _, _, (9, 0)]) ⟨.inl rfl, .inl rfl, .inl rfl, .inr rfl, trivial⟩ ?_
    exact h
  · replace h := wI_neg h43 h
    refine g_iload_n (q0 := 47) (j := 1) rfl dX11_nextListed_46 rfl ?_
    refine g_if_lt (q0 := 50) (tgt := 71) rfl dX11_nextListed_47 (by decide) (fun h47 => ?_) (fun h47 => ?_)
    · replace h := wI_pos h47 h
      refine g_iload_n (q0 := 72) (j := 2) rfl dX11_nextListed_71 rfl ?_
      refine g_istore_n (q0 := 73) (j := 1) (lv2 := [_, _, _, _]) rfl dX11_nextListed_72 (by decide) rfl rfl ?_
      refine g_iincw (q0 := 76) (lv2 := [_, _, _, _]) rfl dX11_nextListed_73 rfl (by decide) rfl rfl ?_
      refine g_goto (tgt := 4) dX11_nextListed_76 (by decide) ?_
      refine gA_jk (lv1 := [_, _, _, (9, 0)]) ⟨.inl rfl, .inl rfl, .inl rfl, .inr rfl, trivial⟩ ?_
      exact h
    · replace h := wI_neg (Int.not_lt.mpr h47) h
      refine g_aload_n (q0 := 51) (j := 0) rfl dX11_nextListed_50 rfl ?_
      refine g_getp (q0 := 54) (b := 4) rfl ff_X11_27 dX11_nextListed_51 rfl hOK (by decide) (sh_0 hOK) rfl (by decide) ?_
      refine g_getp (q0 := 57) (b := 12) rfl ff_X11_280 dX11_nextListed_54 rfl hOK (by decide) (sh_4 hOK) rfl (by decide) ?_
      refine g_iload_n (q0 := 58) (j := 2) rfl dX11_nextListed_57 rfl ?_
      obtain ⟨g2, h⟩ := h
      refine g_iald (q0 := 59) rfl dX11_nextListed_58 (sh_12 hOK) g2.1 g2.2 ?_
      refine g_aload_n (q0 := 60) (j := 0) rfl dX11_nextListed_59 rfl ?_
      refine g_getp (q0 := 63) (b := 4) rfl ff_X11_27 dX11_nextListed_60 rfl hOK (by decide) (sh_0 hOK) rfl (by decide) ?_
      refine g_getp (q0 := 66) (b := 12) rfl ff_X11_280 dX11_nextListed_63 rfl hOK (by decide) (sh_4 hOK) rfl (by decide) ?_
      refine g_iload_n (q0 := 67) (j := 1) rfl dX11_nextListed_66 rfl ?_
      obtain ⟨g3, h⟩ := h
      refine g_iald (q0 := 68) rfl dX11_nextListed_67 (sh_12 hOK) g3.1 g3.2 ?_
      refine g_icmp_lt (q0 := 71) (tgt := 73) rfl dX11_nextListed_68 (by decide) (fun h68 => ?_) (fun h68 => ?_)
      · replace h := wI_pos h68 h
        refine g_iincw (q0 := 76) (lv2 := [_, _, _, _]) rfl dX11_nextListed_73 rfl (by decide) rfl rfl ?_
        refine g_goto (tgt := 4) dX11_nextListed_76 (by decide) ?_
        refine gA_jk (lv1 := [_, _, _, (9, 0)]) ⟨.inl rfl, .inl rfl, .inl rfl, .inr rfl, trivial⟩ ?_
        exact h
      · replace h := wI_neg (Int.not_lt.mpr h68) h
        refine g_iload_n (q0 := 72) (j := 2) rfl dX11_nextListed_71 rfl ?_
        refine g_istore_n (q0 := 73) (j := 1) (lv2 := [_, _, _, _]) rfl dX11_nextListed_72 (by decide) rfl rfl ?_
        refine g_iincw (q0 := 76) (lv2 := [_, _, _, _]) rfl dX11_nextListed_73 rfl (by decide) rfl rfl ?_
        refine g_goto (tgt := 4) dX11_nextListed_76 (by decide) ?_
        refine gA_jk (lv1 := [_, _, _, (9, 0)]) ⟨.inl rfl, .inl rfl, .inl rfl, .inr rfl, trivial⟩ ?_
        exact h
theorem w_X11_nextListed {sh : gS} {Q : Option gV → gS → gM → Prop} {M : gM} (hOK : gOK sh M) (h : (P_X11_nextListed_4 sh Q (-1) 0 M)) : gC (gr 1 22) yX11_nextListed cX11_nextListed 4 (some (.int)) [(4, 0)] sh M Q := by
  refine gC_ofA (lv := [_, _, _, _]) (by decide +kernel) (Nat.le_of_ble_eq_true rfl) rfl (fun hMw hav => ?_)
  refine g_iconst (q0 := 1) rfl dX11_nextListed_0 (k := ?_)
  refine g_istore_n (q0 := 2) (j := 1) (lv2 := [_, _, _, _]) rfl dX11_nextListed_1 (by decide) rfl rfl ?_
  refine g_iconst (q0 := 3) rfl dX11_nextListed_2 (k := ?_)
  refine g_istore_n (q0 := 4) (j := 2) (lv2 := [_, _, _, _]) rfl dX11_nextListed_3 (by decide) rfl rfl ?_
  exact h
-- ==== X11_apart
theorem dX11_apart_0 : decode cX11_apart 0 = .ok (.iload_n 1, 1) := by decide +kernel
theorem dX11_apart_1 : decode cX11_apart 1 = .ok (.invokestatic 166, 3) := by decide +kernel
theorem dX11_apart_4 : decode cX11_apart 4 = .ok (.ifCond .eq 19, 3) := by decide +kernel
theorem dX11_apart_7 : decode cX11_apart 7 = .ok (.iload_n 2, 1) := by decide +kernel
theorem dX11_apart_8 : decode cX11_apart 8 = .ok (.invokestatic 166, 3) := by decide +kernel
theorem dX11_apart_11 : decode cX11_apart 11 = .ok (.ifCond .eq 12, 3) := by decide +kernel
theorem dX11_apart_14 : decode cX11_apart 14 = .ok (.iload_n 3, 1) := by decide +kernel
theorem dX11_apart_15 : decode cX11_apart 15 = .ok (.ifCond .lt 8, 3) := by decide +kernel
theorem dX11_apart_18 : decode cX11_apart 18 = .ok (.iload_n 3, 1) := by decide +kernel
theorem dX11_apart_19 : decode cX11_apart 19 = .ok (.iconst 3, 1) := by decide +kernel
theorem dX11_apart_20 : decode cX11_apart 20 = .ok (.if_icmp .le 5, 3) := by decide +kernel
theorem dX11_apart_23 : decode cX11_apart 23 = .ok (.iconst (-1), 1) := by decide +kernel
theorem dX11_apart_24 : decode cX11_apart 24 = .ok (.ireturn, 1) := by decide +kernel
theorem dX11_apart_25 : decode cX11_apart 25 = .ok (.iload_n 3, 1) := by decide +kernel
theorem dX11_apart_26 : decode cX11_apart 26 = .ok (.iconst 3, 1) := by decide +kernel
theorem dX11_apart_27 : decode cX11_apart 27 = .ok (.if_icmp .ne 51, 3) := by decide +kernel
theorem dX11_apart_30 : decode cX11_apart 30 = .ok (.aload_n 0, 1) := by decide +kernel
theorem dX11_apart_31 : decode cX11_apart 31 = .ok (.getfield 37, 3) := by decide +kernel
theorem dX11_apart_34 : decode cX11_apart 34 = .ok (.iload_n 1, 1) := by decide +kernel
theorem dX11_apart_35 : decode cX11_apart 35 = .ok (.aaload, 1) := by decide +kernel
theorem dX11_apart_36 : decode cX11_apart 36 = .ok (.aload_n 0, 1) := by decide +kernel
theorem dX11_apart_37 : decode cX11_apart 37 = .ok (.getfield 37, 3) := by decide +kernel
theorem dX11_apart_40 : decode cX11_apart 40 = .ok (.iload_n 2, 1) := by decide +kernel
theorem dX11_apart_41 : decode cX11_apart 41 = .ok (.aaload, 1) := by decide +kernel
theorem dX11_apart_42 : decode cX11_apart 42 = .ok (.invokevirtual 533, 3) := by decide +kernel
theorem dX11_apart_45 : decode cX11_apart 45 = .ok (.aload_n 0, 1) := by decide +kernel
theorem dX11_apart_46 : decode cX11_apart 46 = .ok (.getfield 37, 3) := by decide +kernel
theorem dX11_apart_49 : decode cX11_apart 49 = .ok (.iload_n 2, 1) := by decide +kernel
theorem dX11_apart_50 : decode cX11_apart 50 = .ok (.aaload, 1) := by decide +kernel
theorem dX11_apart_51 : decode cX11_apart 51 = .ok (.aload_n 0, 1) := by decide +kernel
theorem dX11_apart_52 : decode cX11_apart 52 = .ok (.getfield 37, 3) := by decide +kernel
theorem dX11_apart_55 : decode cX11_apart 55 = .ok (.iload_n 1, 1) := by decide +kernel
theorem dX11_apart_56 : decode cX11_apart 56 = .ok (.aaload, 1) := by decide +kernel
theorem dX11_apart_57 : decode cX11_apart 57 = .ok (.invokevirtual 533, 3) := by decide +kernel
theorem dX11_apart_60 : decode cX11_apart 60 = .ok (.iadd, 1) := by decide +kernel
theorem dX11_apart_61 : decode cX11_apart 61 = .ok (.aload_n 0, 1) := by decide +kernel
theorem dX11_apart_62 : decode cX11_apart 62 = .ok (.getfield 37, 3) := by decide +kernel
theorem dX11_apart_65 : decode cX11_apart 65 = .ok (.iload_n 1, 1) := by decide +kernel
theorem dX11_apart_66 : decode cX11_apart 66 = .ok (.aaload, 1) := by decide +kernel
theorem dX11_apart_67 : decode cX11_apart 67 = .ok (.aload_n 0, 1) := by decide +kernel
theorem dX11_apart_68 : decode cX11_apart 68 = .ok (.getfield 37, 3) := by decide +kernel
theorem dX11_apart_71 : decode cX11_apart 71 = .ok (.iload_n 2, 1) := by decide +kernel
theorem dX11_apart_72 : decode cX11_apart 72 = .ok (.aaload, 1) := by decide +kernel
theorem dX11_apart_73 : decode cX11_apart 73 = .ok (.invokevirtual 537, 3) := by decide +kernel
theorem dX11_apart_76 : decode cX11_apart 76 = .ok (.isub, 1) := by decide +kernel
theorem dX11_apart_77 : decode cX11_apart 77 = .ok (.ireturn, 1) := by decide +kernel
theorem dX11_apart_78 : decode cX11_apart 78 = .ok (.aload_n 0, 1) := by decide +kernel
theorem dX11_apart_79 : decode cX11_apart 79 = .ok (.getfield 27, 3) := by decide +kernel
theorem dX11_apart_82 : decode cX11_apart 82 = .ok (.aload_n 0, 1) := by decide +kernel
theorem dX11_apart_83 : decode cX11_apart 83 = .ok (.getfield 37, 3) := by decide +kernel
theorem dX11_apart_86 : decode cX11_apart 86 = .ok (.iload_n 1, 1) := by decide +kernel
theorem dX11_apart_87 : decode cX11_apart 87 = .ok (.aaload, 1) := by decide +kernel
theorem dX11_apart_88 : decode cX11_apart 88 = .ok (.aload_n 0, 1) := by decide +kernel
theorem dX11_apart_89 : decode cX11_apart 89 = .ok (.getfield 74, 3) := by decide +kernel
theorem dX11_apart_92 : decode cX11_apart 92 = .ok (.iconst 0, 1) := by decide +kernel
theorem dX11_apart_93 : decode cX11_apart 93 = .ok (.invokevirtual 361, 3) := by decide +kernel
theorem dX11_apart_96 : decode cX11_apart 96 = .ok (.aload_n 0, 1) := by decide +kernel
theorem dX11_apart_97 : decode cX11_apart 97 = .ok (.getfield 27, 3) := by decide +kernel
theorem dX11_apart_100 : decode cX11_apart 100 = .ok (.aload_n 0, 1) := by decide +kernel
theorem dX11_apart_101 : decode cX11_apart 101 = .ok (.getfield 37, 3) := by decide +kernel
theorem dX11_apart_104 : decode cX11_apart 104 = .ok (.iload_n 2, 1) := by decide +kernel
theorem dX11_apart_105 : decode cX11_apart 105 = .ok (.aaload, 1) := by decide +kernel
theorem dX11_apart_106 : decode cX11_apart 106 = .ok (.aload_n 0, 1) := by decide +kernel
theorem dX11_apart_107 : decode cX11_apart 107 = .ok (.getfield 74, 3) := by decide +kernel
theorem dX11_apart_110 : decode cX11_apart 110 = .ok (.iconst 1, 1) := by decide +kernel
theorem dX11_apart_111 : decode cX11_apart 111 = .ok (.invokevirtual 361, 3) := by decide +kernel
theorem dX11_apart_114 : decode cX11_apart 114 = .ok (.aload_n 0, 1) := by decide +kernel
theorem dX11_apart_115 : decode cX11_apart 115 = .ok (.getfield 74, 3) := by decide +kernel
theorem dX11_apart_118 : decode cX11_apart 118 = .ok (.iconst 0, 1) := by decide +kernel
theorem dX11_apart_119 : decode cX11_apart 119 = .ok (.aload_n 0, 1) := by decide +kernel
theorem dX11_apart_120 : decode cX11_apart 120 = .ok (.getfield 74, 3) := by decide +kernel
theorem dX11_apart_123 : decode cX11_apart 123 = .ok (.iconst 1, 1) := by decide +kernel
theorem dX11_apart_124 : decode cX11_apart 124 = .ok (.invokevirtual 506, 3) := by decide +kernel
theorem dX11_apart_127 : decode cX11_apart 127 = .ok (.istore 4, 2) := by decide +kernel
theorem dX11_apart_129 : decode cX11_apart 129 = .ok (.iload_n 3, 1) := by decide +kernel
theorem dX11_apart_130 : decode cX11_apart 130 = .ok (.iconst 1, 1) := by decide +kernel
theorem dX11_apart_131 : decode cX11_apart 131 = .ok (.if_icmp .ne 8, 3) := by decide +kernel
theorem dX11_apart_134 : decode cX11_apart 134 = .ok (.iload 4, 2) := by decide +kernel
theorem dX11_apart_136 : decode cX11_apart 136 = .ok (.goto 22, 3) := by decide +kernel
theorem dX11_apart_139 : decode cX11_apart 139 = .ok (.aload_n 0, 1) := by decide +kernel
theorem dX11_apart_140 : decode cX11_apart 140 = .ok (.getfield 74, 3) := by decide +kernel
theorem dX11_apart_143 : decode cX11_apart 143 = .ok (.iload_n 3, 1) := by decide +kernel
theorem dX11_apart_144 : decode cX11_apart 144 = .ok (.ifCond .ne 7, 3) := by decide +kernel
theorem dX11_apart_147 : decode cX11_apart 147 = .ok (.iconst 0, 1) := by decide +kernel
theorem dX11_apart_148 : decode cX11_apart 148 = .ok (.goto 4, 3) := by decide +kernel
theorem dX11_apart_151 : decode cX11_apart 151 = .ok (.iconst 1, 1) := by decide +kernel
theorem dX11_apart_152 : decode cX11_apart 152 = .ok (.invokevirtual 307, 3) := by decide +kernel
theorem dX11_apart_155 : decode cX11_apart 155 = .ok (.iload 4, 2) := by decide +kernel
theorem dX11_apart_157 : decode cX11_apart 157 = .ok (.isub, 1) := by decide +kernel
theorem dX11_apart_158 : decode cX11_apart 158 = .ok (.ireturn, 1) := by decide +kernel
theorem w_X11_apart {sh : gS} {Q : Option gV → gS → gM → Prop} {a1 a2 a3 : Int} {M : gM} (hOK : gOK sh M) (h : (∃ v1 : Int, gC (gr 0 0) yX11_isHistory cX11_isHistory 1 (some (.boolean)) [(0, a1)] sh M (gPp sh M (0, v1)) ∧
    (if v1 = 0 then
      (Q (some (0, -1)) sh M)
    else
      (∃ v8 : Int, gC (gr 0 0) yX11_isHistory cX11_isHistory 1 (some (.boolean)) [(0, a2)] sh M (gPp sh M (0, v8)) ∧
        (if v8 = 0 then
          (Q (some (0, -1)) sh M)
        else
          (if a3 < 0 then
            (Q (some (0, -1)) sh M)
          else
            (if (3 : Int) < a3 then
              (Q (some (0, -1)) sh M)
            else
              (if a3 = 3 then
                ((0 ≤ a1 ∧ a1 < 4) ∧
                  ((0 ≤ a2 ∧ a2 < 4) ∧
                    ((gsh sh (479 + 10 * a1) = some (0, 8) ∧ (479 + 10 * a1) < 758) ∧
                      (∃ v42 : Int, gC (gr 1 23) yX7_missesOf cX7_missesOf 5 (some (.int)) [(4, (479 + 10 * a1)), (4, (479 + 10 * a2))] sh M (gPp sh M (0, v42)) ∧
                        ((gsh sh (479 + 10 * a2) = some (0, 8) ∧ (479 + 10 * a2) < 758) ∧
                          (∃ v57 : Int, gC (gr 1 23) yX7_missesOf cX7_missesOf 5 (some (.int)) [(4, (479 + 10 * a2)), (4, (479 + 10 * a1))] sh M (gPp sh M (0, v57)) ∧
                            (∃ v73 : Int, gC (gr 1 23) yX7_movesOf cX7_movesOf 5 (some (.int)) [(4, (479 + 10 * a1)), (4, (479 + 10 * a2))] sh M (gPp sh M (0, v73)) ∧
                              (Q (some (0, (gw32 ((gw32 (v42 + v57)) - v73)))) sh M))))))))
              else
                ((0 ≤ a1 ∧ a1 < 4) ∧
                  (∃ P93 : Option gV → gM → Prop, gC (gr 1 23) yX1_markHistory cX1_markHistory 5 none [(4, 4), (4, (479 + 10 * a1)), (4, 470), (0, 0)] sh M (gPm sh P93) ∧ ∀ (r93 : Option gV) (M93 : gM), P93 r93 M93 → r93 = none ∧ gOK sh M93 ∧
                    ((0 ≤ a2 ∧ a2 < 4) ∧
                      (∃ P111 : Option gV → gM → Prop, gC (gr 1 23) yX1_markHistory cX1_markHistory 5 none [(4, 4), (4, (479 + 10 * a2)), (4, 470), (0, 1)] sh M93 (gPm sh P111) ∧ ∀ (r111 : Option gV) (M111 : gM), P111 r111 M111 → r111 = none ∧ gOK sh M111 ∧
                        (∃ v124 : Int, gC (gr 1 21) yX3_sizeInBoth cX3_sizeInBoth 4 (some (.int)) [(4, 470), (0, 0), (4, 470), (0, 1)] sh M111 (gPp sh M111 (0, v124)) ∧
                          (if a3 = 1 then
                            (Q (some (0, v124)) sh M111)
                          else
                            (if a3 = 0 then
                              (∃ v152 : Int, gC (gr 1 21) yX3_size cX3_size 2 (some (.int)) [(4, 470), (0, 0)] sh M111 (gPp sh M111 (0, v152)) ∧
                                (Q (some (0, (gw32 (v152 - v124)))) sh M111))
                            else
                              (∃ v152 : Int, gC (gr 1 21) yX3_size cX3_size 2 (some (.int)) [(4, 470), (0, 1)] sh M111 (gPp sh M111 (0, v152)) ∧
                                (Q (some (0, (gw32 (v152 - v124)))) sh M111))))))))))))))))) : gC (gr 2 47) yX11_apart cX11_apart 5 (some (.int)) [(4, 0), (0, a1), (0, a2), (0, a3)] sh M Q := by
  refine gC_ofA (lv := [_, _, _, _, _]) (by decide +kernel) (Nat.le_of_ble_eq_true rfl) rfl (fun hMw hav => ?_)
  refine g_iload_n (q0 := 1) (j := 1) rfl dX11_apart_0 rfl ?_
  obtain ⟨v1, e1, h⟩ := h
  refine g_callSp (as := [_]) (rest := []) mt_X11_isHistory ms_X11_isHistory ml_X11_166 dX11_apart_1 (q0 := 4) rfl rfl e1 rfl ⟨by decide, by decide⟩ (Nat.le_of_ble_eq_true rfl) ⟨Nat.zero_le _, Nat.zero_le _⟩ (fun _ => ?_)
  refine g_if_eq (q0 := 7) (tgt := 23) rfl dX11_apart_4 (by decide) (fun h4 => ?_) (fun h4 => ?_)
  · replace h := wI_pos h4 h
    refine g_iconst (q0 := 24) rfl dX11_apart_23 (k := ?_)
    exact g_ireturn dX11_apart_24 rfl ⟨Nat.zero_le _, Nat.zero_le _⟩ h
  · replace h := wI_neg h4 h
    refine g_iload_n (q0 := 8) (j := 2) rfl dX11_apart_7 rfl ?_
    obtain ⟨v8, e8, h⟩ := h
    refine g_callSp (as := [_]) (rest := []) mt_X11_isHistory ms_X11_isHistory ml_X11_166 dX11_apart_8 (q0 := 11) rfl rfl e8 rfl ⟨by decide, by decide⟩ (Nat.le_of_ble_eq_true rfl) ⟨Nat.zero_le _, Nat.zero_le _⟩ (fun _ => ?_)
    refine g_if_eq (q0 := 14) (tgt := 23) rfl dX11_apart_11 (by decide) (fun h11 => ?_) (fun h11 => ?_)
    · replace h := wI_pos h11 h
      refine g_iconst (q0 := 24) rfl dX11_apart_23 (k := ?_)
      exact g_ireturn dX11_apart_24 rfl ⟨Nat.zero_le _, Nat.zero_le _⟩ h
    · replace h := wI_neg h11 h
      refine g_iload_n (q0 := 15) (j := 3) rfl dX11_apart_14 rfl ?_
      refine g_if_lt (q0 := 18) (tgt := 23) rfl dX11_apart_15 (by decide) (fun h15 => ?_) (fun h15 => ?_)
      · replace h := wI_pos h15 h
        refine g_iconst (q0 := 24) rfl dX11_apart_23 (k := ?_)
        exact g_ireturn dX11_apart_24 rfl ⟨Nat.zero_le _, Nat.zero_le _⟩ h
      · replace h := wI_neg (Int.not_lt.mpr h15) h
        refine g_iload_n (q0 := 19) (j := 3) rfl dX11_apart_18 rfl ?_
        refine g_iconst (q0 := 20) rfl dX11_apart_19 (k := ?_)
        refine g_icmp_le (q0 := 23) (tgt := 25) rfl dX11_apart_20 (by decide) (fun h20 => ?_) (fun h20 => ?_)
        · replace h := wI_neg (Int.not_lt.mpr h20) h
          refine g_iload_n (q0 := 26) (j := 3) rfl dX11_apart_25 rfl ?_
          refine g_iconst (q0 := 27) rfl dX11_apart_26 (k := ?_)
          refine g_icmp_ne (q0 := 30) (tgt := 78) rfl dX11_apart_27 (by decide) (fun h27 => ?_) (fun h27 => ?_)
          · replace h := wI_neg h27 h
            refine g_aload_n (q0 := 79) (j := 0) rfl dX11_apart_78 rfl ?_
            refine g_getp (q0 := 82) (b := 4) rfl ff_X11_27 dX11_apart_79 rfl hOK (by decide) (sh_0 hOK) rfl (by decide) ?_
            refine g_aload_n (q0 := 83) (j := 0) rfl dX11_apart_82 rfl ?_
            refine g_getp (q0 := 86) (b := 408) rfl ff_X11_37 dX11_apart_83 rfl hOK (by decide) (sh_0 hOK) rfl (by decide) ?_
            refine g_iload_n (q0 := 87) (j := 1) rfl dX11_apart_86 rfl ?_
            obtain ⟨g1, h⟩ := h
            refine g_aald (q0 := 88) (q := 1) rfl dX11_apart_87 (sh_408 hOK) rfl g1.1 g1.2 ?_
            rw [(hOK.2.2.2 _ g1.1 g1.2).1]
            refine g_aload_n (q0 := 89) (j := 0) rfl dX11_apart_88 rfl ?_
            refine g_getp (q0 := 92) (b := 470) rfl ff_X11_74 dX11_apart_89 rfl hOK (by decide) (sh_0 hOK) rfl (by decide) ?_
            refine g_iconst (q0 := 93) rfl dX11_apart_92 (k := ?_)
            obtain ⟨P93, e93, h⟩ := h
            refine g_callVm (as := [_, _, _]) (rest := []) mt_X1_markHistory mi_X1_markHistory se_X1_markHistory ml_X11_361 dX11_apart_93 (q0 := 96) rfl rfl (sh_4 hOK) rfl rfl e93 rfl ⟨by decide, by decide⟩ (Nat.le_of_ble_eq_true rfl) ⟨Nat.zero_le _, Nat.zero_le _⟩ (fun r93 M93 hP93 hw93 hMw93 => ?_)
            obtain ⟨hr93, hOK2, h⟩ := h r93 M93 hP93
            subst hr93
            refine g_aload_n (q0 := 97) (j := 0) rfl dX11_apart_96 rfl ?_
            refine g_getp (q0 := 100) (b := 4) rfl ff_X11_27 dX11_apart_97 rfl hOK2 (by decide) (sh_0 hOK2) rfl (by decide) ?_
            refine g_aload_n (q0 := 101) (j := 0) rfl dX11_apart_100 rfl ?_
            refine g_getp (q0 := 104) (b := 408) rfl ff_X11_37 dX11_apart_101 rfl hOK2 (by decide) (sh_0 hOK2) rfl (by decide) ?_
            refine g_iload_n (q0 := 105) (j := 2) rfl dX11_apart_104 rfl ?_
            obtain ⟨g3, h⟩ := h
            refine g_aald (q0 := 106) (q := 1) rfl dX11_apart_105 (sh_408 hOK2) rfl g3.1 g3.2 ?_
            rw [(hOK2.2.2.2 _ g3.1 g3.2).1]
            refine g_aload_n (q0 := 107) (j := 0) rfl dX11_apart_106 rfl ?_
            refine g_getp (q0 := 110) (b := 470) rfl ff_X11_74 dX11_apart_107 rfl hOK2 (by decide) (sh_0 hOK2) rfl (by decide) ?_
            refine g_iconst (q0 := 111) rfl dX11_apart_110 (k := ?_)
            obtain ⟨P111, e111, h⟩ := h
            refine g_callVm (as := [_, _, _]) (rest := []) mt_X1_markHistory mi_X1_markHistory se_X1_markHistory ml_X11_361 dX11_apart_111 (q0 := 114) rfl rfl (sh_4 hOK2) rfl rfl e111 rfl ⟨by decide, by decide⟩ (Nat.le_of_ble_eq_true rfl) ⟨Nat.zero_le _, Nat.zero_le _⟩ (fun r111 M111 hP111 hw111 hMw111 => ?_)
            obtain ⟨hr111, hOK4, h⟩ := h r111 M111 hP111
            subst hr111
            refine g_aload_n (q0 := 115) (j := 0) rfl dX11_apart_114 rfl ?_
            refine g_getp (q0 := 118) (b := 470) rfl ff_X11_74 dX11_apart_115 rfl hOK4 (by decide) (sh_0 hOK4) rfl (by decide) ?_
            refine g_iconst (q0 := 119) rfl dX11_apart_118 (k := ?_)
            refine g_aload_n (q0 := 120) (j := 0) rfl dX11_apart_119 rfl ?_
            refine g_getp (q0 := 123) (b := 470) rfl ff_X11_74 dX11_apart_120 rfl hOK4 (by decide) (sh_0 hOK4) rfl (by decide) ?_
            refine g_iconst (q0 := 124) rfl dX11_apart_123 (k := ?_)
            obtain ⟨v124, e124, h⟩ := h
            refine g_callVp (as := [_, _, _]) (rest := []) mt_X3_sizeInBoth mi_X3_sizeInBoth se_X3_sizeInBoth ml_X11_506 dX11_apart_124 (q0 := 127) rfl rfl (sh_470 hOK4) rfl rfl e124 rfl ⟨by decide, by decide⟩ (Nat.le_of_ble_eq_true rfl) ⟨Nat.zero_le _, Nat.zero_le _⟩ (fun _ => ?_)
            refine g_istore (q0 := 129) (j := 4) (lv2 := [_, _, _, _, _]) rfl dX11_apart_127 (by decide) rfl rfl ?_
            refine g_iload_n (q0 := 130) (j := 3) rfl dX11_apart_129 rfl ?_
            refine g_iconst (q0 := 131) rfl dX11_apart_130 (k := ?_)
            refine g_icmp_ne (q0 := 134) (tgt := 139) rfl dX11_apart_131 (by decide) (fun h131 => ?_) (fun h131 => ?_)
            · replace h := wI_neg h131 h
              refine g_aload_n (q0 := 140) (j := 0) rfl dX11_apart_139 rfl ?_
              refine g_getp (q0 := 143) (b := 470) rfl ff_X11_74 dX11_apart_140 rfl hOK4 (by decide) (sh_0 hOK4) rfl (by decide) ?_
              refine g_iload_n (q0 := 144) (j := 3) rfl dX11_apart_143 rfl ?_
              refine g_if_ne (q0 := 147) (tgt := 151) rfl dX11_apart_144 (by decide) (fun h144 => ?_) (fun h144 => ?_)
              · replace h := wI_neg h144 h
                refine g_iconst (q0 := 152) rfl dX11_apart_151 (k := ?_)
                obtain ⟨v152, e152, h⟩ := h
                refine g_callVp (as := [_]) (rest := []) mt_X3_size mi_X3_size se_X3_size ml_X11_307 dX11_apart_152 (q0 := 155) rfl rfl (sh_470 hOK4) rfl rfl e152 rfl ⟨by decide, by decide⟩ (Nat.le_of_ble_eq_true rfl) ⟨Nat.zero_le _, Nat.zero_le _⟩ (fun _ => ?_)
                refine g_iload (q0 := 157) (j := 4) rfl dX11_apart_155 rfl ?_
                refine g_isubw (q0 := 158) rfl dX11_apart_157 ?_
                exact g_ireturn dX11_apart_158 rfl ⟨Nat.zero_le _, Nat.zero_le _⟩ h
              · replace h := wI_pos h144 h
                refine g_iconst (q0 := 148) rfl dX11_apart_147 (k := ?_)
                refine g_goto (tgt := 152) dX11_apart_148 (by decide) ?_
                obtain ⟨v152, e152, h⟩ := h
                refine g_callVp (as := [_]) (rest := []) mt_X3_size mi_X3_size se_X3_size ml_X11_307 dX11_apart_152 (q0 := 155) rfl rfl (sh_470 hOK4) rfl rfl e152 rfl ⟨by decide, by decide⟩ (Nat.le_of_ble_eq_true rfl) ⟨Nat.zero_le _, Nat.zero_le _⟩ (fun _ => ?_)
                refine g_iload (q0 := 157) (j := 4) rfl dX11_apart_155 rfl ?_
                refine g_isubw (q0 := 158) rfl dX11_apart_157 ?_
                exact g_ireturn dX11_apart_158 rfl ⟨Nat.zero_le _, Nat.zero_le _⟩ h
            · replace h := wI_pos h131 h
              refine g_iload (q0 := 136) (j := 4) rfl dX11_apart_134 rfl ?_
              refine g_goto (tgt := 158) dX11_apart_136 (by decide) ?_
              exact g_ireturn dX11_apart_158 rfl ⟨Nat.zero_le _, Nat.zero_le _⟩ h
          · replace h := wI_pos h27 h
            refine g_aload_n (q0 := 31) (j := 0) rfl dX11_apart_30 rfl ?_
            refine g_getp (q0 := 34) (b := 408) rfl ff_X11_37 dX11_apart_31 rfl hOK (by decide) (sh_0 hOK) rfl (by decide) ?_
            refine g_iload_n (q0 := 35) (j := 1) rfl dX11_apart_34 rfl ?_
            obtain ⟨g5, h⟩ := h
            refine g_aald (q0 := 36) (q := 1) rfl dX11_apart_35 (sh_408 hOK) rfl g5.1 g5.2 ?_
            rw [(hOK.2.2.2 _ g5.1 g5.2).1]
            refine g_aload_n (q0 := 37) (j := 0) rfl dX11_apart_36 rfl ?_
            refine g_getp (q0 := 40) (b := 408) rfl ff_X11_37 dX11_apart_37 rfl hOK (by decide) (sh_0 hOK) rfl (by decide) ?_
            refine g_iload_n (q0 := 41) (j := 2) rfl dX11_apart_40 rfl ?_
            obtain ⟨g6, h⟩ := h
            refine g_aald (q0 := 42) (q := 1) rfl dX11_apart_41 (sh_408 hOK) rfl g6.1 g6.2 ?_
            rw [(hOK.2.2.2 _ g6.1 g6.2).1]
            obtain ⟨g7, h⟩ := h
            obtain ⟨v42, e42, h⟩ := h
            refine g_callVp (as := [_]) (rest := []) mt_X7_missesOf mi_X7_missesOf se_X7_missesOf ml_X11_533 dX11_apart_42 (q0 := 45) rfl rfl g7.1 rfl rfl e42 rfl ⟨by decide, by decide⟩ (Nat.le_of_ble_eq_true rfl) ⟨Nat.zero_le _, Nat.zero_le _⟩ (fun _ => ?_)
            refine g_aload_n (q0 := 46) (j := 0) rfl dX11_apart_45 rfl ?_
            refine g_getp (q0 := 49) (b := 408) rfl ff_X11_37 dX11_apart_46 rfl hOK (by decide) (sh_0 hOK) rfl (by decide) ?_
            refine g_iload_n (q0 := 50) (j := 2) rfl dX11_apart_49 rfl ?_
            refine g_aald (q0 := 51) (q := 1) rfl dX11_apart_50 (sh_408 hOK) rfl g6.1 g6.2 ?_
            rw [(hOK.2.2.2 _ g6.1 g6.2).1]
            refine g_aload_n (q0 := 52) (j := 0) rfl dX11_apart_51 rfl ?_
            refine g_getp (q0 := 55) (b := 408) rfl ff_X11_37 dX11_apart_52 rfl hOK (by decide) (sh_0 hOK) rfl (by decide) ?_
            refine g_iload_n (q0 := 56) (j := 1) rfl dX11_apart_55 rfl ?_
            refine g_aald (q0 := 57) (q := 1) rfl dX11_apart_56 (sh_408 hOK) rfl g5.1 g5.2 ?_
            rw [(hOK.2.2.2 _ g5.1 g5.2).1]
            obtain ⟨g8, h⟩ := h
            obtain ⟨v57, e57, h⟩ := h
            refine g_callVp (as := [_]) (rest := [_]) mt_X7_missesOf mi_X7_missesOf se_X7_missesOf ml_X11_533 dX11_apart_57 (q0 := 60) rfl rfl g8.1 rfl rfl e57 rfl ⟨by decide, by decide⟩ (Nat.le_of_ble_eq_true rfl) ⟨Nat.zero_le _, Nat.zero_le _⟩ (fun _ => ?_)
            refine g_iaddw (q0 := 61) rfl dX11_apart_60 ?_
            refine g_aload_n (q0 := 62) (j := 0) rfl dX11_apart_61 rfl ?_
            refine g_getp (q0 := 65) (b := 408) rfl ff_X11_37 dX11_apart_62 rfl hOK (by decide) (sh_0 hOK) rfl (by decide) ?_
            refine g_iload_n (q0 := 66) (j := 1) rfl dX11_apart_65 rfl ?_
            refine g_aald (q0 := 67) (q := 1) rfl dX11_apart_66 (sh_408 hOK) rfl g5.1 g5.2 ?_
            rw [(hOK.2.2.2 _ g5.1 g5.2).1]
            refine g_aload_n (q0 := 68) (j := 0) rfl dX11_apart_67 rfl ?_
            refine g_getp (q0 := 71) (b := 408) rfl ff_X11_37 dX11_apart_68 rfl hOK (by decide) (sh_0 hOK) rfl (by decide) ?_
            refine g_iload_n (q0 := 72) (j := 2) rfl dX11_apart_71 rfl ?_
            refine g_aald (q0 := 73) (q := 1) rfl dX11_apart_72 (sh_408 hOK) rfl g6.1 g6.2 ?_
            rw [(hOK.2.2.2 _ g6.1 g6.2).1]
            obtain ⟨v73, e73, h⟩ := h
            refine g_callVp (as := [_]) (rest := [_]) mt_X7_movesOf mi_X7_movesOf se_X7_movesOf ml_X11_537 dX11_apart_73 (q0 := 76) rfl rfl g7.1 rfl rfl e73 rfl ⟨by decide, by decide⟩ (Nat.le_of_ble_eq_true rfl) ⟨Nat.zero_le _, Nat.zero_le _⟩ (fun _ => ?_)
            refine g_isubw (q0 := 77) rfl dX11_apart_76 ?_
            exact g_ireturn dX11_apart_77 rfl ⟨Nat.zero_le _, Nat.zero_le _⟩ h
        · replace h := wI_pos h20 h
          refine g_iconst (q0 := 24) rfl dX11_apart_23 (k := ?_)
          exact g_ireturn dX11_apart_24 rfl ⟨Nat.zero_le _, Nat.zero_le _⟩ h
-- ==== X11_picked
theorem dX11_picked_0 : decode cX11_picked 0 = .ok (.iload_n 1, 1) := by decide +kernel
theorem dX11_picked_1 : decode cX11_picked 1 = .ok (.invokestatic 166, 3) := by decide +kernel
theorem dX11_picked_4 : decode cX11_picked 4 = .ok (.ifCond .eq 14, 3) := by decide +kernel
theorem dX11_picked_7 : decode cX11_picked 7 = .ok (.aload_n 0, 1) := by decide +kernel
theorem dX11_picked_8 : decode cX11_picked 8 = .ok (.getfield 27, 3) := by decide +kernel
theorem dX11_picked_11 : decode cX11_picked 11 = .ok (.iload_n 2, 1) := by decide +kernel
theorem dX11_picked_12 : decode cX11_picked 12 = .ok (.invokevirtual 152, 3) := by decide +kernel
theorem dX11_picked_15 : decode cX11_picked 15 = .ok (.ifCond .ne 5, 3) := by decide +kernel
theorem dX11_picked_18 : decode cX11_picked 18 = .ok (.iconst (-1), 1) := by decide +kernel
theorem dX11_picked_19 : decode cX11_picked 19 = .ok (.ireturn, 1) := by decide +kernel
theorem dX11_picked_20 : decode cX11_picked 20 = .ok (.aload_n 0, 1) := by decide +kernel
theorem dX11_picked_21 : decode cX11_picked 21 = .ok (.getfield 27, 3) := by decide +kernel
theorem dX11_picked_24 : decode cX11_picked 24 = .ok (.aload_n 0, 1) := by decide +kernel
theorem dX11_picked_25 : decode cX11_picked 25 = .ok (.getfield 37, 3) := by decide +kernel
theorem dX11_picked_28 : decode cX11_picked 28 = .ok (.iload_n 1, 1) := by decide +kernel
theorem dX11_picked_29 : decode cX11_picked 29 = .ok (.aaload, 1) := by decide +kernel
theorem dX11_picked_30 : decode cX11_picked 30 = .ok (.aload_n 0, 1) := by decide +kernel
theorem dX11_picked_31 : decode cX11_picked 31 = .ok (.getfield 74, 3) := by decide +kernel
theorem dX11_picked_34 : decode cX11_picked 34 = .ok (.iconst 0, 1) := by decide +kernel
theorem dX11_picked_35 : decode cX11_picked 35 = .ok (.invokevirtual 361, 3) := by decide +kernel
theorem dX11_picked_38 : decode cX11_picked 38 = .ok (.aload_n 0, 1) := by decide +kernel
theorem dX11_picked_39 : decode cX11_picked 39 = .ok (.getfield 62, 3) := by decide +kernel
theorem dX11_picked_42 : decode cX11_picked 42 = .ok (.aload_n 0, 1) := by decide +kernel
theorem dX11_picked_43 : decode cX11_picked 43 = .ok (.getfield 27, 3) := by decide +kernel
theorem dX11_picked_46 : decode cX11_picked 46 = .ok (.iload_n 2, 1) := by decide +kernel
theorem dX11_picked_47 : decode cX11_picked 47 = .ok (.invokevirtual 271, 3) := by decide +kernel
theorem dX11_picked_50 : decode cX11_picked 50 = .ok (.aload_n 0, 1) := by decide +kernel
theorem dX11_picked_51 : decode cX11_picked 51 = .ok (.getfield 27, 3) := by decide +kernel
theorem dX11_picked_54 : decode cX11_picked 54 = .ok (.iload_n 2, 1) := by decide +kernel
theorem dX11_picked_55 : decode cX11_picked 55 = .ok (.invokevirtual 155, 3) := by decide +kernel
theorem dX11_picked_58 : decode cX11_picked 58 = .ok (.invokevirtual 274, 3) := by decide +kernel
theorem dX11_picked_61 : decode cX11_picked 61 = .ok (.iconst 0, 1) := by decide +kernel
theorem dX11_picked_62 : decode cX11_picked 62 = .ok (.istore_n 3, 1) := by decide +kernel
theorem dX11_picked_63 : decode cX11_picked 63 = .ok (.iload_n 3, 1) := by decide +kernel
theorem dX11_picked_64 : decode cX11_picked 64 = .ok (.aload_n 0, 1) := by decide +kernel
theorem dX11_picked_65 : decode cX11_picked 65 = .ok (.getfield 27, 3) := by decide +kernel
theorem dX11_picked_68 : decode cX11_picked 68 = .ok (.getfield 135, 3) := by decide +kernel
theorem dX11_picked_71 : decode cX11_picked 71 = .ok (.if_icmp .ge 68, 3) := by decide +kernel
theorem dX11_picked_74 : decode cX11_picked 74 = .ok (.iload_n 3, 1) := by decide +kernel
theorem dX11_picked_75 : decode cX11_picked 75 = .ok (.iload_n 2, 1) := by decide +kernel
theorem dX11_picked_76 : decode cX11_picked 76 = .ok (.if_icmp .eq 57, 3) := by decide +kernel
theorem dX11_picked_79 : decode cX11_picked 79 = .ok (.aload_n 0, 1) := by decide +kernel
theorem dX11_picked_80 : decode cX11_picked 80 = .ok (.getfield 74, 3) := by decide +kernel
theorem dX11_picked_83 : decode cX11_picked 83 = .ok (.iconst 0, 1) := by decide +kernel
theorem dX11_picked_84 : decode cX11_picked 84 = .ok (.iload_n 3, 1) := by decide +kernel
theorem dX11_picked_85 : decode cX11_picked 85 = .ok (.invokevirtual 365, 3) := by decide +kernel
theorem dX11_picked_88 : decode cX11_picked 88 = .ok (.ifCond .ne 6, 3) := by decide +kernel
theorem dX11_picked_91 : decode cX11_picked 91 = .ok (.goto 42, 3) := by decide +kernel
theorem dX11_picked_94 : decode cX11_picked 94 = .ok (.aload_n 0, 1) := by decide +kernel
theorem dX11_picked_95 : decode cX11_picked 95 = .ok (.getfield 66, 3) := by decide +kernel
theorem dX11_picked_98 : decode cX11_picked 98 = .ok (.aload_n 0, 1) := by decide +kernel
theorem dX11_picked_99 : decode cX11_picked 99 = .ok (.getfield 27, 3) := by decide +kernel
theorem dX11_picked_102 : decode cX11_picked 102 = .ok (.iload_n 3, 1) := by decide +kernel
theorem dX11_picked_103 : decode cX11_picked 103 = .ok (.invokevirtual 271, 3) := by decide +kernel
theorem dX11_picked_106 : decode cX11_picked 106 = .ok (.aload_n 0, 1) := by decide +kernel
theorem dX11_picked_107 : decode cX11_picked 107 = .ok (.getfield 27, 3) := by decide +kernel
theorem dX11_picked_110 : decode cX11_picked 110 = .ok (.iload_n 3, 1) := by decide +kernel
theorem dX11_picked_111 : decode cX11_picked 111 = .ok (.invokevirtual 155, 3) := by decide +kernel
theorem dX11_picked_114 : decode cX11_picked 114 = .ok (.invokevirtual 274, 3) := by decide +kernel
theorem dX11_picked_117 : decode cX11_picked 117 = .ok (.aload_n 0, 1) := by decide +kernel
theorem dX11_picked_118 : decode cX11_picked 118 = .ok (.getfield 62, 3) := by decide +kernel
theorem dX11_picked_121 : decode cX11_picked 121 = .ok (.aload_n 0, 1) := by decide +kernel
theorem dX11_picked_122 : decode cX11_picked 122 = .ok (.getfield 66, 3) := by decide +kernel
theorem dX11_picked_125 : decode cX11_picked 125 = .ok (.invokevirtual 540, 3) := by decide +kernel
theorem dX11_picked_128 : decode cX11_picked 128 = .ok (.ifCond .eq 5, 3) := by decide +kernel
theorem dX11_picked_131 : decode cX11_picked 131 = .ok (.iload_n 3, 1) := by decide +kernel
theorem dX11_picked_132 : decode cX11_picked 132 = .ok (.ireturn, 1) := by decide +kernel
theorem dX11_picked_133 : decode cX11_picked 133 = .ok (.iinc 3 1, 3) := by decide +kernel
theorem dX11_picked_136 : decode cX11_picked 136 = .ok (.goto (-73), 3) := by decide +kernel
theorem dX11_picked_139 : decode cX11_picked 139 = .ok (.bipush (-2), 2) := by decide +kernel
theorem dX11_picked_141 : decode cX11_picked 141 = .ok (.ireturn, 1) := by decide +kernel
def P_X11_picked_63 (sh : gS) (Q : Option gV → gS → gM → Prop) (x1 x2 x3 : Int) (M : gM) : Prop := gA (gr 2 54) yX11_picked cX11_picked 4 (some (.int)) Q (0, 0) 63 [(4, 0), (0, x1), (0, x2), (0, x3)] [] sh M
theorem w_X11_picked_63 {sh : gS} {Q : Option gV → gS → gM → Prop} {x1 x2 x3 : Int} {M : gM} (hOK : gOK sh M) (h : (if x3 < (M 4 0) then
    (if x3 = x2 then
      (P_X11_picked_63 sh Q x1 x2 (gw32 (x3 + 1)) M)
    else
      (∃ v85 : Int, gC (gr 0 0) yX3_has cX3_has 3 (some (.boolean)) [(4, 470), (0, 0), (0, x3)] sh M (gPp sh M (0, v85)) ∧
        (if v85 = 0 then
          (P_X11_picked_63 sh Q x1 x2 (gw32 (x3 + 1)) M)
        else
          (∃ v103 : Int, gC (gr 1 22) yX1_firstTree cX1_firstTree 2 (some (.object "CarriedHistory$Tree")) [(4, 4), (0, x3)] sh M (gPp sh M (4, v103)) ∧
            (∃ v111 : Int, gC (gr 0 0) yX1_tree cX1_tree 2 (some (.object "CarriedHistory$Tree")) [(4, 4), (0, x3)] sh M (gPp sh M (4, v111)) ∧
              (∃ P114 : Option gV → gM → Prop, gC (gr 1 25) yX0_measure cX0_measure 10 none [(4, 455), (4, v103), (4, v111)] sh M (gPm sh P114) ∧ ∀ (r114 : Option gV) (M114 : gM), P114 r114 M114 → r114 = none ∧ gOK sh M114 ∧
                (∃ v125 : Int, gC (gr 0 0) yX0_isLike cX0_isLike 3 (some (.boolean)) [(4, 440), (4, 455)] sh M114 (gPp sh M114 (0, v125)) ∧
                  (if v125 = 0 then
                    (P_X11_picked_63 sh Q x1 x2 (gw32 (x3 + 1)) M114)
                  else
                    (Q (some (0, x3)) sh M114)))))))))
  else
    (Q (some (0, -2)) sh M))) : P_X11_picked_63 sh Q x1 x2 x3 M := by
  unfold P_X11_picked_63
  refine g_iload_n (q0 := 64) (j := 3) rfl dX11_picked_63 rfl ?_
  refine g_aload_n (q0 := 65) (j := 0) rfl dX11_picked_64 rfl ?_
  refine g_getp (q0 := 68) (b := 4) rfl ff_X11_27 dX11_picked_65 rfl hOK (by decide) (sh_0 hOK) rfl (by decide) ?_
  refine g_getf (q0 := 71) (t := 0) (fi := 0) rfl rfl ff_X11_135 dX11_picked_68 rfl (sh_4 hOK) ?_
  refine g_icmp_ge (q0 := 74) (tgt := 139) rfl dX11_picked_71 (by decide) (fun h71 => ?_) (fun h71 => ?_)
  · replace h := wI_neg (Int.not_lt.mpr h71) h
    refine g_bipush (q0 := 141) rfl dX11_picked_139 (k := ?_)
    exact g_ireturn dX11_picked_141 rfl ⟨Nat.zero_le _, Nat.zero_le _⟩ h
  · replace h := wI_pos h71 h
    refine g_iload_n (q0 := 75) (j := 3) rfl dX11_picked_74 rfl ?_
    refine g_iload_n (q0 := 76) (j := 2) rfl dX11_picked_75 rfl ?_
    refine g_icmp_eq (q0 := 79) (tgt := 133) rfl dX11_picked_76 (by decide) (fun h76 => ?_) (fun h76 => ?_)
    · replace h := wI_pos h76 h
      refine g_iincw (q0 := 136) (lv2 := [_, _, _, _]) rfl dX11_picked_133 rfl (by decide) rfl rfl ?_
      refine g_goto (tgt := 63) dX11_picked_136 (by decide) ?_
      exact h
    · replace h := wI_neg h76 h
      refine g_aload_n (q0 := 80) (j := 0) rfl dX11_picked_79 rfl ?_
      refine g_getp (q0 := 83) (b := 470) rfl ff_X11_74 dX11_picked_80 rfl hOK (by decide) (sh_0 hOK) rfl (by decide) ?_
      refine g_iconst (q0 := 84) rfl dX11_picked_83 (k := ?_)
      refine g_iload_n (q0 := 85) (j := 3) rfl dX11_picked_84 rfl ?_
      obtain ⟨v85, e85, h⟩ := h
      refine g_callVp (as := [_, _]) (rest := []) mt_X3_has mi_X3_has se_X3_has ml_X11_365 dX11_picked_85 (q0 := 88) rfl rfl (sh_470 hOK) rfl rfl e85 rfl ⟨by decide, by decide⟩ (Nat.le_of_ble_eq_true rfl) ⟨Nat.zero_le _, Nat.zero_le _⟩ (fun _ => ?_)
      refine g_if_ne (q0 := 91) (tgt := 94) rfl dX11_picked_88 (by decide) (fun h88 => ?_) (fun h88 => ?_)
      · replace h := wI_neg h88 h
        refine g_aload_n (q0 := 95) (j := 0) rfl dX11_picked_94 rfl ?_
        refine g_getp (q0 := 98) (b := 455) rfl ff_X11_66 dX11_picked_95 rfl hOK (by decide) (sh_0 hOK) rfl (by decide) ?_
        refine g_aload_n (q0 := 99) (j := 0) rfl dX11_picked_98 rfl ?_
        refine g_getp (q0 := 102) (b := 4) rfl ff_X11_27 dX11_picked_99 rfl hOK (by decide) (sh_0 hOK) rfl (by decide) ?_
        refine g_iload_n (q0 := 103) (j := 3) rfl dX11_picked_102 rfl ?_
        obtain ⟨v103, e103, h⟩ := h
        refine g_callVp (as := [_]) (rest := [_]) mt_X1_firstTree mi_X1_firstTree se_X1_firstTree ml_X11_271 dX11_picked_103 (q0 := 106) rfl rfl (sh_4 hOK) rfl rfl e103 rfl ⟨by decide, by decide⟩ (Nat.le_of_ble_eq_true rfl) ⟨Nat.zero_le _, Nat.zero_le _⟩ (fun _ => ?_)
        refine g_aload_n (q0 := 107) (j := 0) rfl dX11_picked_106 rfl ?_
        refine g_getp (q0 := 110) (b := 4) rfl ff_X11_27 dX11_picked_107 rfl hOK (by decide) (sh_0 hOK) rfl (by decide) ?_
        refine g_iload_n (q0 := 111) (j := 3) rfl dX11_picked_110 rfl ?_
        obtain ⟨v111, e111, h⟩ := h
        refine g_callVp (as := [_]) (rest := [_, _]) mt_X1_tree mi_X1_tree se_X1_tree ml_X11_155 dX11_picked_111 (q0 := 114) rfl rfl (sh_4 hOK) rfl rfl e111 rfl ⟨by decide, by decide⟩ (Nat.le_of_ble_eq_true rfl) ⟨Nat.zero_le _, Nat.zero_le _⟩ (fun _ => ?_)
        obtain ⟨P114, e114, h⟩ := h
        refine g_callVm (as := [_, _]) (rest := []) mt_X0_measure mi_X0_measure se_X0_measure ml_X11_274 dX11_picked_114 (q0 := 117) rfl rfl (sh_455 hOK) rfl rfl e114 rfl ⟨by decide, by decide⟩ (Nat.le_of_ble_eq_true rfl) ⟨Nat.zero_le _, Nat.zero_le _⟩ (fun r114 M114 hP114 hw114 hMw114 => ?_)
        obtain ⟨hr114, hOK1, h⟩ := h r114 M114 hP114
        subst hr114
        refine g_aload_n (q0 := 118) (j := 0) rfl dX11_picked_117 rfl ?_
        refine g_getp (q0 := 121) (b := 440) rfl ff_X11_62 dX11_picked_118 rfl hOK1 (by decide) (sh_0 hOK1) rfl (by decide) ?_
        refine g_aload_n (q0 := 122) (j := 0) rfl dX11_picked_121 rfl ?_
        refine g_getp (q0 := 125) (b := 455) rfl ff_X11_66 dX11_picked_122 rfl hOK1 (by decide) (sh_0 hOK1) rfl (by decide) ?_
        obtain ⟨v125, e125, h⟩ := h
        refine g_callVp (as := [_]) (rest := []) mt_X0_isLike mi_X0_isLike se_X0_isLike ml_X11_540 dX11_picked_125 (q0 := 128) rfl rfl (sh_440 hOK1) rfl rfl e125 rfl ⟨by decide, by decide⟩ (Nat.le_of_ble_eq_true rfl) ⟨Nat.zero_le _, Nat.zero_le _⟩ (fun _ => ?_)
        refine g_if_eq (q0 := 131) (tgt := 133) rfl dX11_picked_128 (by decide) (fun h128 => ?_) (fun h128 => ?_)
        · replace h := wI_pos h128 h
          refine g_iincw (q0 := 136) (lv2 := [_, _, _, _]) rfl dX11_picked_133 rfl (by decide) rfl rfl ?_
          refine g_goto (tgt := 63) dX11_picked_136 (by decide) ?_
          exact h
        · replace h := wI_neg h128 h
          refine g_iload_n (q0 := 132) (j := 3) rfl dX11_picked_131 rfl ?_
          exact g_ireturn dX11_picked_132 rfl ⟨Nat.zero_le _, Nat.zero_le _⟩ h
      · replace h := wI_pos h88 h
        refine g_goto (tgt := 133) dX11_picked_91 (by decide) ?_
        refine g_iincw (q0 := 136) (lv2 := [_, _, _, _]) rfl dX11_picked_133 rfl (by decide) rfl rfl ?_
        refine g_goto (tgt := 63) dX11_picked_136 (by decide) ?_
        exact h
theorem w_X11_picked {sh : gS} {Q : Option gV → gS → gM → Prop} {a1 a2 : Int} {M : gM} (hOK : gOK sh M) (h : (∃ v1 : Int, gC (gr 0 0) yX11_isHistory cX11_isHistory 1 (some (.boolean)) [(0, a1)] sh M (gPp sh M (0, v1)) ∧
    (if v1 = 0 then
      (Q (some (0, -1)) sh M)
    else
      (∃ v12 : Int, gC (gr 0 0) yX1_has cX1_has 2 (some (.boolean)) [(4, 4), (0, a2)] sh M (gPp sh M (0, v12)) ∧
        (if v12 = 0 then
          (Q (some (0, -1)) sh M)
        else
          ((0 ≤ a1 ∧ a1 < 4) ∧
            (∃ P35 : Option gV → gM → Prop, gC (gr 1 23) yX1_markHistory cX1_markHistory 5 none [(4, 4), (4, (479 + 10 * a1)), (4, 470), (0, 0)] sh M (gPm sh P35) ∧ ∀ (r35 : Option gV) (M35 : gM), P35 r35 M35 → r35 = none ∧ gOK sh M35 ∧
              (∃ v47 : Int, gC (gr 1 22) yX1_firstTree cX1_firstTree 2 (some (.object "CarriedHistory$Tree")) [(4, 4), (0, a2)] sh M35 (gPp sh M35 (4, v47)) ∧
                (∃ v55 : Int, gC (gr 0 0) yX1_tree cX1_tree 2 (some (.object "CarriedHistory$Tree")) [(4, 4), (0, a2)] sh M35 (gPp sh M35 (4, v55)) ∧
                  (∃ P58 : Option gV → gM → Prop, gC (gr 1 25) yX0_measure cX0_measure 10 none [(4, 440), (4, v47), (4, v55)] sh M35 (gPm sh P58) ∧ ∀ (r58 : Option gV) (M58 : gM), P58 r58 M58 → r58 = none ∧ gOK sh M58 ∧
                    (P_X11_picked_63 sh Q a1 a2 0 M58))))))))))) : gC (gr 2 54) yX11_picked cX11_picked 4 (some (.int)) [(4, 0), (0, a1), (0, a2)] sh M Q := by
  refine gC_ofA (lv := [_, _, _, _]) (by decide +kernel) (Nat.le_of_ble_eq_true rfl) rfl (fun hMw hav => ?_)
  refine g_iload_n (q0 := 1) (j := 1) rfl dX11_picked_0 rfl ?_
  obtain ⟨v1, e1, h⟩ := h
  refine g_callSp (as := [_]) (rest := []) mt_X11_isHistory ms_X11_isHistory ml_X11_166 dX11_picked_1 (q0 := 4) rfl rfl e1 rfl ⟨by decide, by decide⟩ (Nat.le_of_ble_eq_true rfl) ⟨Nat.zero_le _, Nat.zero_le _⟩ (fun _ => ?_)
  refine g_if_eq (q0 := 7) (tgt := 18) rfl dX11_picked_4 (by decide) (fun h4 => ?_) (fun h4 => ?_)
  · replace h := wI_pos h4 h
    refine g_iconst (q0 := 19) rfl dX11_picked_18 (k := ?_)
    exact g_ireturn dX11_picked_19 rfl ⟨Nat.zero_le _, Nat.zero_le _⟩ h
  · replace h := wI_neg h4 h
    refine g_aload_n (q0 := 8) (j := 0) rfl dX11_picked_7 rfl ?_
    refine g_getp (q0 := 11) (b := 4) rfl ff_X11_27 dX11_picked_8 rfl hOK (by decide) (sh_0 hOK) rfl (by decide) ?_
    refine g_iload_n (q0 := 12) (j := 2) rfl dX11_picked_11 rfl ?_
    obtain ⟨v12, e12, h⟩ := h
    refine g_callVp (as := [_]) (rest := []) mt_X1_has mi_X1_has se_X1_has ml_X11_152 dX11_picked_12 (q0 := 15) rfl rfl (sh_4 hOK) rfl rfl e12 rfl ⟨by decide, by decide⟩ (Nat.le_of_ble_eq_true rfl) ⟨Nat.zero_le _, Nat.zero_le _⟩ (fun _ => ?_)
    refine g_if_ne (q0 := 18) (tgt := 20) rfl dX11_picked_15 (by decide) (fun h15 => ?_) (fun h15 => ?_)
    · replace h := wI_neg h15 h
      refine g_aload_n (q0 := 21) (j := 0) rfl dX11_picked_20 rfl ?_
      refine g_getp (q0 := 24) (b := 4) rfl ff_X11_27 dX11_picked_21 rfl hOK (by decide) (sh_0 hOK) rfl (by decide) ?_
      refine g_aload_n (q0 := 25) (j := 0) rfl dX11_picked_24 rfl ?_
      refine g_getp (q0 := 28) (b := 408) rfl ff_X11_37 dX11_picked_25 rfl hOK (by decide) (sh_0 hOK) rfl (by decide) ?_
      refine g_iload_n (q0 := 29) (j := 1) rfl dX11_picked_28 rfl ?_
      obtain ⟨g2, h⟩ := h
      refine g_aald (q0 := 30) (q := 1) rfl dX11_picked_29 (sh_408 hOK) rfl g2.1 g2.2 ?_
      rw [(hOK.2.2.2 _ g2.1 g2.2).1]
      refine g_aload_n (q0 := 31) (j := 0) rfl dX11_picked_30 rfl ?_
      refine g_getp (q0 := 34) (b := 470) rfl ff_X11_74 dX11_picked_31 rfl hOK (by decide) (sh_0 hOK) rfl (by decide) ?_
      refine g_iconst (q0 := 35) rfl dX11_picked_34 (k := ?_)
      obtain ⟨P35, e35, h⟩ := h
      refine g_callVm (as := [_, _, _]) (rest := []) mt_X1_markHistory mi_X1_markHistory se_X1_markHistory ml_X11_361 dX11_picked_35 (q0 := 38) rfl rfl (sh_4 hOK) rfl rfl e35 rfl ⟨by decide, by decide⟩ (Nat.le_of_ble_eq_true rfl) ⟨Nat.zero_le _, Nat.zero_le _⟩ (fun r35 M35 hP35 hw35 hMw35 => ?_)
      obtain ⟨hr35, hOK3, h⟩ := h r35 M35 hP35
      subst hr35
      refine g_aload_n (q0 := 39) (j := 0) rfl dX11_picked_38 rfl ?_
      refine g_getp (q0 := 42) (b := 440) rfl ff_X11_62 dX11_picked_39 rfl hOK3 (by decide) (sh_0 hOK3) rfl (by decide) ?_
      refine g_aload_n (q0 := 43) (j := 0) rfl dX11_picked_42 rfl ?_
      refine g_getp (q0 := 46) (b := 4) rfl ff_X11_27 dX11_picked_43 rfl hOK3 (by decide) (sh_0 hOK3) rfl (by decide) ?_
      refine g_iload_n (q0 := 47) (j := 2) rfl dX11_picked_46 rfl ?_
      obtain ⟨v47, e47, h⟩ := h
      refine g_callVp (as := [_]) (rest := [_]) mt_X1_firstTree mi_X1_firstTree se_X1_firstTree ml_X11_271 dX11_picked_47 (q0 := 50) rfl rfl (sh_4 hOK3) rfl rfl e47 rfl ⟨by decide, by decide⟩ (Nat.le_of_ble_eq_true rfl) ⟨Nat.zero_le _, Nat.zero_le _⟩ (fun _ => ?_)
      refine g_aload_n (q0 := 51) (j := 0) rfl dX11_picked_50 rfl ?_
      refine g_getp (q0 := 54) (b := 4) rfl ff_X11_27 dX11_picked_51 rfl hOK3 (by decide) (sh_0 hOK3) rfl (by decide) ?_
      refine g_iload_n (q0 := 55) (j := 2) rfl dX11_picked_54 rfl ?_
      obtain ⟨v55, e55, h⟩ := h
      refine g_callVp (as := [_]) (rest := [_, _]) mt_X1_tree mi_X1_tree se_X1_tree ml_X11_155 dX11_picked_55 (q0 := 58) rfl rfl (sh_4 hOK3) rfl rfl e55 rfl ⟨by decide, by decide⟩ (Nat.le_of_ble_eq_true rfl) ⟨Nat.zero_le _, Nat.zero_le _⟩ (fun _ => ?_)
      obtain ⟨P58, e58, h⟩ := h
      refine g_callVm (as := [_, _]) (rest := []) mt_X0_measure mi_X0_measure se_X0_measure ml_X11_274 dX11_picked_58 (q0 := 61) rfl rfl (sh_440 hOK3) rfl rfl e58 rfl ⟨by decide, by decide⟩ (Nat.le_of_ble_eq_true rfl) ⟨Nat.zero_le _, Nat.zero_le _⟩ (fun r58 M58 hP58 hw58 hMw58 => ?_)
      obtain ⟨hr58, hOK4, h⟩ := h r58 M58 hP58
      subst hr58
      refine g_iconst (q0 := 62) rfl dX11_picked_61 (k := ?_)
      refine g_istore_n (q0 := 63) (j := 3) (lv2 := [_, _, _, _]) rfl dX11_picked_62 (by decide) rfl rfl ?_
      exact h
    · replace h := wI_pos h15 h
      refine g_iconst (q0 := 19) rfl dX11_picked_18 (k := ?_)
      exact g_ireturn dX11_picked_19 rfl ⟨Nat.zero_le _, Nat.zero_le _⟩ h
-- ==== X11_ancestor
theorem dX11_ancestor_0 : decode cX11_ancestor 0 = .ok (.aload_n 0, 1) := by decide +kernel
theorem dX11_ancestor_1 : decode cX11_ancestor 1 = .ok (.getfield 27, 3) := by decide +kernel
theorem dX11_ancestor_4 : decode cX11_ancestor 4 = .ok (.iload_n 1, 1) := by decide +kernel
theorem dX11_ancestor_5 : decode cX11_ancestor 5 = .ok (.invokevirtual 152, 3) := by decide +kernel
theorem dX11_ancestor_8 : decode cX11_ancestor 8 = .ok (.ifCond .eq 14, 3) := by decide +kernel
theorem dX11_ancestor_11 : decode cX11_ancestor 11 = .ok (.aload_n 0, 1) := by decide +kernel
theorem dX11_ancestor_12 : decode cX11_ancestor 12 = .ok (.getfield 27, 3) := by decide +kernel
theorem dX11_ancestor_15 : decode cX11_ancestor 15 = .ok (.iload_n 2, 1) := by decide +kernel
theorem dX11_ancestor_16 : decode cX11_ancestor 16 = .ok (.invokevirtual 152, 3) := by decide +kernel
theorem dX11_ancestor_19 : decode cX11_ancestor 19 = .ok (.ifCond .ne 5, 3) := by decide +kernel
theorem dX11_ancestor_22 : decode cX11_ancestor 22 = .ok (.iconst (-1), 1) := by decide +kernel
theorem dX11_ancestor_23 : decode cX11_ancestor 23 = .ok (.ireturn, 1) := by decide +kernel
theorem dX11_ancestor_24 : decode cX11_ancestor 24 = .ok (.aload_n 0, 1) := by decide +kernel
theorem dX11_ancestor_25 : decode cX11_ancestor 25 = .ok (.getfield 27, 3) := by decide +kernel
theorem dX11_ancestor_28 : decode cX11_ancestor 28 = .ok (.iload_n 1, 1) := by decide +kernel
theorem dX11_ancestor_29 : decode cX11_ancestor 29 = .ok (.iload_n 2, 1) := by decide +kernel
theorem dX11_ancestor_30 : decode cX11_ancestor 30 = .ok (.invokevirtual 244, 3) := by decide +kernel
theorem dX11_ancestor_33 : decode cX11_ancestor 33 = .ok (.ifCond .eq 7, 3) := by decide +kernel
theorem dX11_ancestor_36 : decode cX11_ancestor 36 = .ok (.iconst 1, 1) := by decide +kernel
theorem dX11_ancestor_37 : decode cX11_ancestor 37 = .ok (.goto 4, 3) := by decide +kernel
theorem dX11_ancestor_40 : decode cX11_ancestor 40 = .ok (.iconst 0, 1) := by decide +kernel
theorem dX11_ancestor_41 : decode cX11_ancestor 41 = .ok (.ireturn, 1) := by decide +kernel
theorem w_X11_ancestor {sh : gS} {Q : Option gV → gS → gM → Prop} {a1 a2 : Int} {M : gM} (hOK : gOK sh M) (h : (∃ v5 : Int, gC (gr 0 0) yX1_has cX1_has 2 (some (.boolean)) [(4, 4), (0, a1)] sh M (gPp sh M (0, v5)) ∧
    (if v5 = 0 then
      (Q (some (0, -1)) sh M)
    else
      (∃ v16 : Int, gC (gr 0 0) yX1_has cX1_has 2 (some (.boolean)) [(4, 4), (0, a2)] sh M (gPp sh M (0, v16)) ∧
        (if v16 = 0 then
          (Q (some (0, -1)) sh M)
        else
          (∃ v30 : Int, gC (gr 1 22) yX1_isAbove cX1_isAbove 3 (some (.boolean)) [(4, 4), (0, a1), (0, a2)] sh M (gPp sh M (0, v30)) ∧
            (if v30 = 0 then
              (Q (some (0, 0)) sh M)
            else
              (Q (some (0, 1)) sh M)))))))) : gC (gr 2 44) yX11_ancestor cX11_ancestor 3 (some (.int)) [(4, 0), (0, a1), (0, a2)] sh M Q := by
  refine gC_ofA (lv := [_, _, _]) (by decide +kernel) (Nat.le_of_ble_eq_true rfl) rfl (fun hMw hav => ?_)
  refine g_aload_n (q0 := 1) (j := 0) rfl dX11_ancestor_0 rfl ?_
  refine g_getp (q0 := 4) (b := 4) rfl ff_X11_27 dX11_ancestor_1 rfl hOK (by decide) (sh_0 hOK) rfl (by decide) ?_
  refine g_iload_n (q0 := 5) (j := 1) rfl dX11_ancestor_4 rfl ?_
  obtain ⟨v5, e5, h⟩ := h
  refine g_callVp (as := [_]) (rest := []) mt_X1_has mi_X1_has se_X1_has ml_X11_152 dX11_ancestor_5 (q0 := 8) rfl rfl (sh_4 hOK) rfl rfl e5 rfl ⟨by decide, by decide⟩ (Nat.le_of_ble_eq_true rfl) ⟨Nat.zero_le _, Nat.zero_le _⟩ (fun _ => ?_)
  refine g_if_eq (q0 := 11) (tgt := 22) rfl dX11_ancestor_8 (by decide) (fun h8 => ?_) (fun h8 => ?_)
  · replace h := wI_pos h8 h
    refine g_iconst (q0 := 23) rfl dX11_ancestor_22 (k := ?_)
    exact g_ireturn dX11_ancestor_23 rfl ⟨Nat.zero_le _, Nat.zero_le _⟩ h
  · replace h := wI_neg h8 h
    refine g_aload_n (q0 := 12) (j := 0) rfl dX11_ancestor_11 rfl ?_
    refine g_getp (q0 := 15) (b := 4) rfl ff_X11_27 dX11_ancestor_12 rfl hOK (by decide) (sh_0 hOK) rfl (by decide) ?_
    refine g_iload_n (q0 := 16) (j := 2) rfl dX11_ancestor_15 rfl ?_
    obtain ⟨v16, e16, h⟩ := h
    refine g_callVp (as := [_]) (rest := []) mt_X1_has mi_X1_has se_X1_has ml_X11_152 dX11_ancestor_16 (q0 := 19) rfl rfl (sh_4 hOK) rfl rfl e16 rfl ⟨by decide, by decide⟩ (Nat.le_of_ble_eq_true rfl) ⟨Nat.zero_le _, Nat.zero_le _⟩ (fun _ => ?_)
    refine g_if_ne (q0 := 22) (tgt := 24) rfl dX11_ancestor_19 (by decide) (fun h19 => ?_) (fun h19 => ?_)
    · replace h := wI_neg h19 h
      refine g_aload_n (q0 := 25) (j := 0) rfl dX11_ancestor_24 rfl ?_
      refine g_getp (q0 := 28) (b := 4) rfl ff_X11_27 dX11_ancestor_25 rfl hOK (by decide) (sh_0 hOK) rfl (by decide) ?_
      refine g_iload_n (q0 := 29) (j := 1) rfl dX11_ancestor_28 rfl ?_
      refine g_iload_n (q0 := 30) (j := 2) rfl dX11_ancestor_29 rfl ?_
      obtain ⟨v30, e30, h⟩ := h
      refine g_callVp (as := [_, _]) (rest := []) mt_X1_isAbove mi_X1_isAbove se_X1_isAbove ml_X11_244 dX11_ancestor_30 (q0 := 33) rfl rfl (sh_4 hOK) rfl rfl e30 rfl ⟨by decide, by decide⟩ (Nat.le_of_ble_eq_true rfl) ⟨Nat.zero_le _, Nat.zero_le _⟩ (fun _ => ?_)
      refine g_if_eq (q0 := 36) (tgt := 40) rfl dX11_ancestor_33 (by decide) (fun h33 => ?_) (fun h33 => ?_)
      · replace h := wI_pos h33 h
        refine g_iconst (q0 := 41) rfl dX11_ancestor_40 (k := ?_)
        exact g_ireturn dX11_ancestor_41 rfl ⟨Nat.zero_le _, Nat.zero_le _⟩ h
      · replace h := wI_neg h33 h
        refine g_iconst (q0 := 37) rfl dX11_ancestor_36 (k := ?_)
        refine g_goto (tgt := 41) dX11_ancestor_37 (by decide) ?_
        exact g_ireturn dX11_ancestor_41 rfl ⟨Nat.zero_le _, Nat.zero_le _⟩ h
    · replace h := wI_pos h19 h
      refine g_iconst (q0 := 23) rfl dX11_ancestor_22 (k := ?_)
      exact g_ireturn dX11_ancestor_23 rfl ⟨Nat.zero_le _, Nat.zero_le _⟩ h
-- ==== X11_base
theorem dX11_base_0 : decode cX11_base 0 = .ok (.iload_n 3, 1) := by decide +kernel
theorem dX11_base_1 : decode cX11_base 1 = .ok (.bipush 10, 2) := by decide +kernel
theorem dX11_base_3 : decode cX11_base 3 = .ok (.if_icmp .lt 14, 3) := by decide +kernel
theorem dX11_base_6 : decode cX11_base 6 = .ok (.iload_n 3, 1) := by decide +kernel
theorem dX11_base_7 : decode cX11_base 7 = .ok (.sipush 130, 3) := by decide +kernel
theorem dX11_base_10 : decode cX11_base 10 = .ok (.if_icmp .ge 7, 3) := by decide +kernel
theorem dX11_base_13 : decode cX11_base 13 = .ok (.iconst 1, 1) := by decide +kernel
theorem dX11_base_14 : decode cX11_base 14 = .ok (.goto 4, 3) := by decide +kernel
theorem dX11_base_17 : decode cX11_base 17 = .ok (.iconst 0, 1) := by decide +kernel
theorem dX11_base_18 : decode cX11_base 18 = .ok (.istore 4, 2) := by decide +kernel
theorem dX11_base_20 : decode cX11_base 20 = .ok (.aload_n 0, 1) := by decide +kernel
theorem dX11_base_21 : decode cX11_base 21 = .ok (.getfield 27, 3) := by decide +kernel
theorem dX11_base_24 : decode cX11_base 24 = .ok (.iload_n 1, 1) := by decide +kernel
theorem dX11_base_25 : decode cX11_base 25 = .ok (.invokevirtual 152, 3) := by decide +kernel
theorem dX11_base_28 : decode cX11_base 28 = .ok (.ifCond .eq 23, 3) := by decide +kernel
theorem dX11_base_31 : decode cX11_base 31 = .ok (.aload_n 0, 1) := by decide +kernel
theorem dX11_base_32 : decode cX11_base 32 = .ok (.getfield 27, 3) := by decide +kernel
theorem dX11_base_35 : decode cX11_base 35 = .ok (.iload_n 2, 1) := by decide +kernel
theorem dX11_base_36 : decode cX11_base 36 = .ok (.invokevirtual 152, 3) := by decide +kernel
theorem dX11_base_39 : decode cX11_base 39 = .ok (.ifCond .eq 12, 3) := by decide +kernel
theorem dX11_base_42 : decode cX11_base 42 = .ok (.iload_n 3, 1) := by decide +kernel
theorem dX11_base_43 : decode cX11_base 43 = .ok (.ifCond .eq 10, 3) := by decide +kernel
theorem dX11_base_46 : decode cX11_base 46 = .ok (.iload 4, 2) := by decide +kernel
theorem dX11_base_48 : decode cX11_base 48 = .ok (.ifCond .ne 5, 3) := by decide +kernel
theorem dX11_base_51 : decode cX11_base 51 = .ok (.iconst (-1), 1) := by decide +kernel
theorem dX11_base_52 : decode cX11_base 52 = .ok (.ireturn, 1) := by decide +kernel
theorem dX11_base_53 : decode cX11_base 53 = .ok (.aload_n 0, 1) := by decide +kernel
theorem dX11_base_54 : decode cX11_base 54 = .ok (.iload_n 1, 1) := by decide +kernel
theorem dX11_base_55 : decode cX11_base 55 = .ok (.iload_n 2, 1) := by decide +kernel
theorem dX11_base_56 : decode cX11_base 56 = .ok (.invokevirtual 543, 3) := by decide +kernel
theorem dX11_base_59 : decode cX11_base 59 = .ok (.iload_n 3, 1) := by decide +kernel
theorem dX11_base_60 : decode cX11_base 60 = .ok (.ifCond .ne 12, 3) := by decide +kernel
theorem dX11_base_63 : decode cX11_base 63 = .ok (.aload_n 0, 1) := by decide +kernel
theorem dX11_base_64 : decode cX11_base 64 = .ok (.getfield 74, 3) := by decide +kernel
theorem dX11_base_67 : decode cX11_base 67 = .ok (.iconst 0, 1) := by decide +kernel
theorem dX11_base_68 : decode cX11_base 68 = .ok (.invokevirtual 307, 3) := by decide +kernel
theorem dX11_base_71 : decode cX11_base 71 = .ok (.ireturn, 1) := by decide +kernel
theorem dX11_base_72 : decode cX11_base 72 = .ok (.aload_n 0, 1) := by decide +kernel
theorem dX11_base_73 : decode cX11_base 73 = .ok (.getfield 74, 3) := by decide +kernel
theorem dX11_base_76 : decode cX11_base 76 = .ok (.iconst 0, 1) := by decide +kernel
theorem dX11_base_77 : decode cX11_base 77 = .ok (.iload_n 3, 1) := by decide +kernel
theorem dX11_base_78 : decode cX11_base 78 = .ok (.bipush 10, 2) := by decide +kernel
theorem dX11_base_80 : decode cX11_base 80 = .ok (.isub, 1) := by decide +kernel
theorem dX11_base_81 : decode cX11_base 81 = .ok (.invokevirtual 546, 3) := by decide +kernel
theorem dX11_base_84 : decode cX11_base 84 = .ok (.istore 5, 2) := by decide +kernel
theorem dX11_base_86 : decode cX11_base 86 = .ok (.iload 5, 2) := by decide +kernel
theorem dX11_base_88 : decode cX11_base 88 = .ok (.ifCond .ge 8, 3) := by decide +kernel
theorem dX11_base_91 : decode cX11_base 91 = .ok (.bipush (-4), 2) := by decide +kernel
theorem dX11_base_93 : decode cX11_base 93 = .ok (.goto 5, 3) := by decide +kernel
theorem dX11_base_96 : decode cX11_base 96 = .ok (.iload 5, 2) := by decide +kernel
theorem dX11_base_98 : decode cX11_base 98 = .ok (.ireturn, 1) := by decide +kernel
def P_X11_base_18 (sh : gS) (Q : Option gV → gS → gM → Prop) (x1 x2 x3 s0 : Int) (M : gM) : Prop := gA (gr 3 69) yX11_base cX11_base 6 (some (.int)) Q (0, 0) 18 [(4, 0), (0, x1), (0, x2), (0, x3), (9, 0), (9, 0)] [(0, s0)] sh M
def P_X11_base_53 (sh : gS) (Q : Option gV → gS → gM → Prop) (x1 x2 x3 x4 : Int) (M : gM) : Prop := gA (gr 3 69) yX11_base cX11_base 6 (some (.int)) Q (0, 0) 53 [(4, 0), (0, x1), (0, x2), (0, x3), (0, x4), (9, 0)] [] sh M
theorem w_X11_base_18 {sh : gS} {Q : Option gV → gS → gM → Prop} {x1 x2 x3 s0 : Int} {M : gM} (hOK : gOK sh M) (h : (∃ v25 : Int, gC (gr 0 0) yX1_has cX1_has 2 (some (.boolean)) [(4, 4), (0, x1)] sh M (gPp sh M (0, v25)) ∧
    (if v25 = 0 then
      (Q (some (0, -1)) sh M)
    else
      (∃ v36 : Int, gC (gr 0 0) yX1_has cX1_has 2 (some (.boolean)) [(4, 4), (0, x2)] sh M (gPp sh M (0, v36)) ∧
        (if v36 = 0 then
          (Q (some (0, -1)) sh M)
        else
          (if x3 = 0 then
            (P_X11_base_53 sh Q x1 x2 x3 s0 M)
          else
            (if s0 = 0 then
              (Q (some (0, -1)) sh M)
            else
              (P_X11_base_53 sh Q x1 x2 x3 s0 M)))))))) : P_X11_base_18 sh Q x1 x2 x3 s0 M := by
  unfold P_X11_base_18
  refine g_istore (q0 := 20) (j := 4) (lv2 := [_, _, _, _, _, _]) rfl dX11_base_18 (by decide) rfl rfl ?_
  refine g_aload_n (q0 := 21) (j := 0) rfl dX11_base_20 rfl ?_
  refine g_getp (q0 := 24) (b := 4) rfl ff_X11_27 dX11_base_21 rfl hOK (by decide) (sh_0 hOK) rfl (by decide) ?_
  refine g_iload_n (q0 := 25) (j := 1) rfl dX11_base_24 rfl ?_
  obtain ⟨v25, e25, h⟩ := h
  refine g_callVp (as := [_]) (rest := []) mt_X1_has mi_X1_has se_X1_has ml_X11_152 dX11_base_25 (q0 := 28) rfl rfl (sh_4 hOK) rfl rfl e25 rfl ⟨by decide, by decide⟩ (Nat.le_of_ble_eq_true rfl) ⟨Nat.zero_le _, Nat.zero_le _⟩ (fun _ => ?_)
  refine g_if_eq (q0 := 31) (tgt := 51) rfl dX11_base_28 (by decide) (fun h28 => ?_) (fun h28 => ?_)
  · replace h := wI_pos h28 h
    refine g_iconst (q0 := 52) rfl dX11_base_51 (k := ?_)
    exact g_ireturn dX11_base_52 rfl ⟨Nat.zero_le _, Nat.zero_le _⟩ h
  · replace h := wI_neg h28 h
    refine g_aload_n (q0 := 32) (j := 0) rfl dX11_base_31 rfl ?_
    refine g_getp (q0 := 35) (b := 4) rfl ff_X11_27 dX11_base_32 rfl hOK (by decide) (sh_0 hOK) rfl (by decide) ?_
    refine g_iload_n (q0 := 36) (j := 2) rfl dX11_base_35 rfl ?_
    obtain ⟨v36, e36, h⟩ := h
    refine g_callVp (as := [_]) (rest := []) mt_X1_has mi_X1_has se_X1_has ml_X11_152 dX11_base_36 (q0 := 39) rfl rfl (sh_4 hOK) rfl rfl e36 rfl ⟨by decide, by decide⟩ (Nat.le_of_ble_eq_true rfl) ⟨Nat.zero_le _, Nat.zero_le _⟩ (fun _ => ?_)
    refine g_if_eq (q0 := 42) (tgt := 51) rfl dX11_base_39 (by decide) (fun h39 => ?_) (fun h39 => ?_)
    · replace h := wI_pos h39 h
      refine g_iconst (q0 := 52) rfl dX11_base_51 (k := ?_)
      exact g_ireturn dX11_base_52 rfl ⟨Nat.zero_le _, Nat.zero_le _⟩ h
    · replace h := wI_neg h39 h
      refine g_iload_n (q0 := 43) (j := 3) rfl dX11_base_42 rfl ?_
      refine g_if_eq (q0 := 46) (tgt := 53) rfl dX11_base_43 (by decide) (fun h43 => ?_) (fun h43 => ?_)
      · replace h := wI_pos h43 h
        exact h
      · replace h := wI_neg h43 h
        refine g_iload (q0 := 48) (j := 4) rfl dX11_base_46 rfl ?_
        refine g_if_ne (q0 := 51) (tgt := 53) rfl dX11_base_48 (by decide) (fun h48 => ?_) (fun h48 => ?_)
        · replace h := wI_neg h48 h
          exact h
        · replace h := wI_pos h48 h
          refine g_iconst (q0 := 52) rfl dX11_base_51 (k := ?_)
          exact g_ireturn dX11_base_52 rfl ⟨Nat.zero_le _, Nat.zero_le _⟩ h
theorem w_X11_base_53 {sh : gS} {Q : Option gV → gS → gM → Prop} {x1 x2 x3 x4 : Int} {M : gM} (hOK : gOK sh M) (h : (∃ P56 : Option gV → gM → Prop, gC (gr 2 46) yX11_markBases cX11_markBases 4 none [(4, 0), (0, x1), (0, x2)] sh M (gPm sh P56) ∧ ∀ (r56 : Option gV) (M56 : gM), P56 r56 M56 → r56 = none ∧ gOK sh M56 ∧
    (if x3 = 0 then
      (∃ v68 : Int, gC (gr 1 21) yX3_size cX3_size 2 (some (.int)) [(4, 470), (0, 0)] sh M56 (gPp sh M56 (0, v68)) ∧
        (Q (some (0, v68)) sh M56))
    else
      (∃ v81 : Int, gC (gr 1 22) yX3_nth cX3_nth 5 (some (.int)) [(4, 470), (0, 0), (0, (gw32 (x3 - (10 : Int))))] sh M56 (gPp sh M56 (0, v81)) ∧
        (if v81 < 0 then
          (Q (some (0, -4)) sh M56)
        else
          (Q (some (0, v81)) sh M56)))))) : P_X11_base_53 sh Q x1 x2 x3 x4 M := by
  unfold P_X11_base_53
  refine g_aload_n (q0 := 54) (j := 0) rfl dX11_base_53 rfl ?_
  refine g_iload_n (q0 := 55) (j := 1) rfl dX11_base_54 rfl ?_
  refine g_iload_n (q0 := 56) (j := 2) rfl dX11_base_55 rfl ?_
  obtain ⟨P56, e56, h⟩ := h
  refine g_callVm (as := [_, _]) (rest := []) mt_X11_markBases mi_X11_markBases se_X11_markBases ml_X11_543 dX11_base_56 (q0 := 59) rfl rfl (sh_0 hOK) rfl rfl e56 rfl ⟨by decide, by decide⟩ (Nat.le_of_ble_eq_true rfl) ⟨Nat.zero_le _, Nat.zero_le _⟩ (fun r56 M56 hP56 hw56 hMw56 => ?_)
  obtain ⟨hr56, hOK1, h⟩ := h r56 M56 hP56
  subst hr56
  refine g_iload_n (q0 := 60) (j := 3) rfl dX11_base_59 rfl ?_
  refine g_if_ne (q0 := 63) (tgt := 72) rfl dX11_base_60 (by decide) (fun h60 => ?_) (fun h60 => ?_)
  · replace h := wI_neg h60 h
    refine g_aload_n (q0 := 73) (j := 0) rfl dX11_base_72 rfl ?_
    refine g_getp (q0 := 76) (b := 470) rfl ff_X11_74 dX11_base_73 rfl hOK1 (by decide) (sh_0 hOK1) rfl (by decide) ?_
    refine g_iconst (q0 := 77) rfl dX11_base_76 (k := ?_)
    refine g_iload_n (q0 := 78) (j := 3) rfl dX11_base_77 rfl ?_
    refine g_bipush (q0 := 80) rfl dX11_base_78 (k := ?_)
    refine g_isubw (q0 := 81) rfl dX11_base_80 ?_
    obtain ⟨v81, e81, h⟩ := h
    refine g_callVp (as := [_, _]) (rest := []) mt_X3_nth mi_X3_nth se_X3_nth ml_X11_546 dX11_base_81 (q0 := 84) rfl rfl (sh_470 hOK1) rfl rfl e81 rfl ⟨by decide, by decide⟩ (Nat.le_of_ble_eq_true rfl) ⟨Nat.zero_le _, Nat.zero_le _⟩ (fun _ => ?_)
    refine g_istore (q0 := 86) (j := 5) (lv2 := [_, _, _, _, _, _]) rfl dX11_base_84 (by decide) rfl rfl ?_
    refine g_iload (q0 := 88) (j := 5) rfl dX11_base_86 rfl ?_
    refine g_if_ge (q0 := 91) (tgt := 96) rfl dX11_base_88 (by decide) (fun h88 => ?_) (fun h88 => ?_)
    · replace h := wI_neg (Int.not_lt.mpr h88) h
      refine g_iload (q0 := 98) (j := 5) rfl dX11_base_96 rfl ?_
      exact g_ireturn dX11_base_98 rfl ⟨Nat.zero_le _, Nat.zero_le _⟩ h
    · replace h := wI_pos h88 h
      refine g_bipush (q0 := 93) rfl dX11_base_91 (k := ?_)
      refine g_goto (tgt := 98) dX11_base_93 (by decide) ?_
      exact g_ireturn dX11_base_98 rfl ⟨Nat.zero_le _, Nat.zero_le _⟩ h
  · replace h := wI_pos h60 h
    refine g_aload_n (q0 := 64) (j := 0) rfl dX11_base_63 rfl ?_
    refine g_getp (q0 := 67) (b := 470) rfl ff_X11_74 dX11_base_64 rfl hOK1 (by decide) (sh_0 hOK1) rfl (by decide) ?_
    refine g_iconst (q0 := 68) rfl dX11_base_67 (k := ?_)
    obtain ⟨v68, e68, h⟩ := h
    refine g_callVp (as := [_]) (rest := []) mt_X3_size mi_X3_size se_X3_size ml_X11_307 dX11_base_68 (q0 := 71) rfl rfl (sh_470 hOK1) rfl rfl e68 rfl ⟨by decide, by decide⟩ (Nat.le_of_ble_eq_true rfl) ⟨Nat.zero_le _, Nat.zero_le _⟩ (fun _ => ?_)
    exact g_ireturn dX11_base_71 rfl ⟨Nat.zero_le _, Nat.zero_le _⟩ h
theorem w_X11_base {sh : gS} {Q : Option gV → gS → gM → Prop} {a1 a2 a3 : Int} {M : gM} (hOK : gOK sh M) (h : (if a3 < 10 then
    (P_X11_base_18 sh Q a1 a2 a3 0 M)
  else
    (if a3 < 130 then
      (P_X11_base_18 sh Q a1 a2 a3 1 M)
    else
      (P_X11_base_18 sh Q a1 a2 a3 0 M)))) : gC (gr 3 69) yX11_base cX11_base 6 (some (.int)) [(4, 0), (0, a1), (0, a2), (0, a3)] sh M Q := by
  refine gC_ofA (lv := [_, _, _, _, _, _]) (by decide +kernel) (Nat.le_of_ble_eq_true rfl) rfl (fun hMw hav => ?_)
  refine g_iload_n (q0 := 1) (j := 3) rfl dX11_base_0 rfl ?_
  refine g_bipush (q0 := 3) rfl dX11_base_1 (k := ?_)
  refine g_icmp_lt (q0 := 6) (tgt := 17) rfl dX11_base_3 (by decide) (fun h3 => ?_) (fun h3 => ?_)
  · replace h := wI_pos h3 h
    refine g_iconst (q0 := 18) rfl dX11_base_17 (k := ?_)
    exact h
  · replace h := wI_neg (Int.not_lt.mpr h3) h
    refine g_iload_n (q0 := 7) (j := 3) rfl dX11_base_6 rfl ?_
    refine g_sipush (q0 := 10) rfl dX11_base_7 (k := ?_)
    refine g_icmp_ge (q0 := 13) (tgt := 17) rfl dX11_base_10 (by decide) (fun h10 => ?_) (fun h10 => ?_)
    · replace h := wI_neg (Int.not_lt.mpr h10) h
      refine g_iconst (q0 := 18) rfl dX11_base_17 (k := ?_)
      exact h
    · replace h := wI_pos h10 h
      refine g_iconst (q0 := 14) rfl dX11_base_13 (k := ?_)
      refine g_goto (tgt := 18) dX11_base_14 (by decide) ?_
      exact h
-- ==== X11_markBases
theorem dX11_markBases_0 : decode cX11_markBases 0 = .ok (.aload_n 0, 1) := by decide +kernel
theorem dX11_markBases_1 : decode cX11_markBases 1 = .ok (.getfield 27, 3) := by decide +kernel
theorem dX11_markBases_4 : decode cX11_markBases 4 = .ok (.iload_n 1, 1) := by decide +kernel
theorem dX11_markBases_5 : decode cX11_markBases 5 = .ok (.aload_n 0, 1) := by decide +kernel
theorem dX11_markBases_6 : decode cX11_markBases 6 = .ok (.getfield 74, 3) := by decide +kernel
theorem dX11_markBases_9 : decode cX11_markBases 9 = .ok (.iconst 0, 1) := by decide +kernel
theorem dX11_markBases_10 : decode cX11_markBases 10 = .ok (.invokevirtual 549, 3) := by decide +kernel
theorem dX11_markBases_13 : decode cX11_markBases 13 = .ok (.aload_n 0, 1) := by decide +kernel
theorem dX11_markBases_14 : decode cX11_markBases 14 = .ok (.getfield 27, 3) := by decide +kernel
theorem dX11_markBases_17 : decode cX11_markBases 17 = .ok (.iload_n 2, 1) := by decide +kernel
theorem dX11_markBases_18 : decode cX11_markBases 18 = .ok (.aload_n 0, 1) := by decide +kernel
theorem dX11_markBases_19 : decode cX11_markBases 19 = .ok (.getfield 74, 3) := by decide +kernel
theorem dX11_markBases_22 : decode cX11_markBases 22 = .ok (.iconst 1, 1) := by decide +kernel
theorem dX11_markBases_23 : decode cX11_markBases 23 = .ok (.invokevirtual 549, 3) := by decide +kernel
theorem dX11_markBases_26 : decode cX11_markBases 26 = .ok (.aload_n 0, 1) := by decide +kernel
theorem dX11_markBases_27 : decode cX11_markBases 27 = .ok (.getfield 74, 3) := by decide +kernel
theorem dX11_markBases_30 : decode cX11_markBases 30 = .ok (.iconst 0, 1) := by decide +kernel
theorem dX11_markBases_31 : decode cX11_markBases 31 = .ok (.aload_n 0, 1) := by decide +kernel
theorem dX11_markBases_32 : decode cX11_markBases 32 = .ok (.getfield 74, 3) := by decide +kernel
theorem dX11_markBases_35 : decode cX11_markBases 35 = .ok (.iconst 1, 1) := by decide +kernel
theorem dX11_markBases_36 : decode cX11_markBases 36 = .ok (.invokevirtual 553, 3) := by decide +kernel
theorem dX11_markBases_39 : decode cX11_markBases 39 = .ok (.aload_n 0, 1) := by decide +kernel
theorem dX11_markBases_40 : decode cX11_markBases 40 = .ok (.getfield 74, 3) := by decide +kernel
theorem dX11_markBases_43 : decode cX11_markBases 43 = .ok (.iconst 1, 1) := by decide +kernel
theorem dX11_markBases_44 : decode cX11_markBases 44 = .ok (.invokevirtual 500, 3) := by decide +kernel
theorem dX11_markBases_47 : decode cX11_markBases 47 = .ok (.iconst 0, 1) := by decide +kernel
theorem dX11_markBases_48 : decode cX11_markBases 48 = .ok (.istore_n 3, 1) := by decide +kernel
theorem dX11_markBases_49 : decode cX11_markBases 49 = .ok (.iload_n 3, 1) := by decide +kernel
theorem dX11_markBases_50 : decode cX11_markBases 50 = .ok (.aload_n 0, 1) := by decide +kernel
theorem dX11_markBases_51 : decode cX11_markBases 51 = .ok (.getfield 27, 3) := by decide +kernel
theorem dX11_markBases_54 : decode cX11_markBases 54 = .ok (.getfield 135, 3) := by decide +kernel
theorem dX11_markBases_57 : decode cX11_markBases 57 = .ok (.if_icmp .ge 37, 3) := by decide +kernel
theorem dX11_markBases_60 : decode cX11_markBases 60 = .ok (.aload_n 0, 1) := by decide +kernel
theorem dX11_markBases_61 : decode cX11_markBases 61 = .ok (.getfield 74, 3) := by decide +kernel
theorem dX11_markBases_64 : decode cX11_markBases 64 = .ok (.iconst 0, 1) := by decide +kernel
theorem dX11_markBases_65 : decode cX11_markBases 65 = .ok (.iload_n 3, 1) := by decide +kernel
theorem dX11_markBases_66 : decode cX11_markBases 66 = .ok (.invokevirtual 365, 3) := by decide +kernel
theorem dX11_markBases_69 : decode cX11_markBases 69 = .ok (.ifCond .eq 19, 3) := by decide +kernel
theorem dX11_markBases_72 : decode cX11_markBases 72 = .ok (.aload_n 0, 1) := by decide +kernel
theorem dX11_markBases_73 : decode cX11_markBases 73 = .ok (.getfield 74, 3) := by decide +kernel
theorem dX11_markBases_76 : decode cX11_markBases 76 = .ok (.iconst 1, 1) := by decide +kernel
theorem dX11_markBases_77 : decode cX11_markBases 77 = .ok (.aload_n 0, 1) := by decide +kernel
theorem dX11_markBases_78 : decode cX11_markBases 78 = .ok (.getfield 27, 3) := by decide +kernel
theorem dX11_markBases_81 : decode cX11_markBases 81 = .ok (.getfield 304, 3) := by decide +kernel
theorem dX11_markBases_84 : decode cX11_markBases 84 = .ok (.iload_n 3, 1) := by decide +kernel
theorem dX11_markBases_85 : decode cX11_markBases 85 = .ok (.invokevirtual 556, 3) := by decide +kernel
theorem dX11_markBases_88 : decode cX11_markBases 88 = .ok (.iinc 3 1, 3) := by decide +kernel
theorem dX11_markBases_91 : decode cX11_markBases 91 = .ok (.goto (-42), 3) := by decide +kernel
theorem dX11_markBases_94 : decode cX11_markBases 94 = .ok (.aload_n 0, 1) := by decide +kernel
theorem dX11_markBases_95 : decode cX11_markBases 95 = .ok (.getfield 74, 3) := by decide +kernel
theorem dX11_markBases_98 : decode cX11_markBases 98 = .ok (.iconst 0, 1) := by decide +kernel
theorem dX11_markBases_99 : decode cX11_markBases 99 = .ok (.aload_n 0, 1) := by decide +kernel
theorem dX11_markBases_100 : decode cX11_markBases 100 = .ok (.getfield 74, 3) := by decide +kernel
theorem dX11_markBases_103 : decode cX11_markBases 103 = .ok (.iconst 1, 1) := by decide +kernel
theorem dX11_markBases_104 : decode cX11_markBases 104 = .ok (.invokevirtual 559, 3) := by decide +kernel
theorem dX11_markBases_107 : decode cX11_markBases 107 = .ok (.return_, 1) := by decide +kernel
def P_X11_markBases_49 (sh : gS) (Q : Option gV → gS → gM → Prop) (x1 x2 x3 : Int) (M : gM) : Prop := gA (gr 2 46) yX11_markBases cX11_markBases 4 none Q (0, 0) 49 [(4, 0), (0, x1), (0, x2), (0, x3)] [] sh M
theorem w_X11_markBases_49 {sh : gS} {Q : Option gV → gS → gM → Prop} {x1 x2 x3 : Int} {M : gM} (hOK : gOK sh M) (h : (if x3 < (M 4 0) then
    (∃ v66 : Int, gC (gr 0 0) yX3_has cX3_has 3 (some (.boolean)) [(4, 470), (0, 0), (0, x3)] sh M (gPp sh M (0, v66)) ∧
      (if v66 = 0 then
        (P_X11_markBases_49 sh Q x1 x2 (gw32 (x3 + 1)) M)
      else
        (∃ P85 : Option gV → gM → Prop, gC (gr 0 0) yX3_putAll cX3_putAll 4 none [(4, 470), (0, 1), (4, 14), (0, x3)] sh M (gPm sh P85) ∧ ∀ (r85 : Option gV) (M85 : gM), P85 r85 M85 → r85 = none ∧ gOK sh M85 ∧
          (P_X11_markBases_49 sh Q x1 x2 (gw32 (x3 + 1)) M85))))
  else
    (∃ P104 : Option gV → gM → Prop, gC (gr 0 0) yX3_cutAll cX3_cutAll 4 none [(4, 470), (0, 0), (4, 470), (0, 1)] sh M (gPm sh P104) ∧ ∀ (r104 : Option gV) (M104 : gM), P104 r104 M104 → r104 = none ∧ gOK sh M104 ∧
      (Q none sh M104)))) : P_X11_markBases_49 sh Q x1 x2 x3 M := by
  unfold P_X11_markBases_49
  refine g_iload_n (q0 := 50) (j := 3) rfl dX11_markBases_49 rfl ?_
  refine g_aload_n (q0 := 51) (j := 0) rfl dX11_markBases_50 rfl ?_
  refine g_getp (q0 := 54) (b := 4) rfl ff_X11_27 dX11_markBases_51 rfl hOK (by decide) (sh_0 hOK) rfl (by decide) ?_
  refine g_getf (q0 := 57) (t := 0) (fi := 0) rfl rfl ff_X11_135 dX11_markBases_54 rfl (sh_4 hOK) ?_
  refine g_icmp_ge (q0 := 60) (tgt := 94) rfl dX11_markBases_57 (by decide) (fun h57 => ?_) (fun h57 => ?_)
  · replace h := wI_neg (Int.not_lt.mpr h57) h
    refine g_aload_n (q0 := 95) (j := 0) rfl dX11_markBases_94 rfl ?_
    refine g_getp (q0 := 98) (b := 470) rfl ff_X11_74 dX11_markBases_95 rfl hOK (by decide) (sh_0 hOK) rfl (by decide) ?_
    refine g_iconst (q0 := 99) rfl dX11_markBases_98 (k := ?_)
    refine g_aload_n (q0 := 100) (j := 0) rfl dX11_markBases_99 rfl ?_
    refine g_getp (q0 := 103) (b := 470) rfl ff_X11_74 dX11_markBases_100 rfl hOK (by decide) (sh_0 hOK) rfl (by decide) ?_
    refine g_iconst (q0 := 104) rfl dX11_markBases_103 (k := ?_)
    obtain ⟨P104, e104, h⟩ := h
    refine g_callVm (as := [_, _, _]) (rest := []) mt_X3_cutAll mi_X3_cutAll se_X3_cutAll ml_X11_559 dX11_markBases_104 (q0 := 107) rfl rfl (sh_470 hOK) rfl rfl e104 rfl ⟨by decide, by decide⟩ (Nat.le_of_ble_eq_true rfl) ⟨Nat.zero_le _, Nat.zero_le _⟩ (fun r104 M104 hP104 hw104 hMw104 => ?_)
    obtain ⟨hr104, hOK1, h⟩ := h r104 M104 hP104
    subst hr104
    exact g_return dX11_markBases_107 rfl ⟨Nat.zero_le _, Nat.zero_le _⟩ h
  · replace h := wI_pos h57 h
    refine g_aload_n (q0 := 61) (j := 0) rfl dX11_markBases_60 rfl ?_
    refine g_getp (q0 := 64) (b := 470) rfl ff_X11_74 dX11_markBases_61 rfl hOK (by decide) (sh_0 hOK) rfl (by decide) ?_
    refine g_iconst (q0 := 65) rfl dX11_markBases_64 (k := ?_)
    refine g_iload_n (q0 := 66) (j := 3) rfl dX11_markBases_65 rfl ?_
    obtain ⟨v66, e66, h⟩ := h
    refine g_callVp (as := [_, _]) (rest := []) mt_X3_has mi_X3_has se_X3_has ml_X11_365 dX11_markBases_66 (q0 := 69) rfl rfl (sh_470 hOK) rfl rfl e66 rfl ⟨by decide, by decide⟩ (Nat.le_of_ble_eq_true rfl) ⟨Nat.zero_le _, Nat.zero_le _⟩ (fun _ => ?_)
    refine g_if_eq (q0 := 72) (tgt := 88) rfl dX11_markBases_69 (by decide) (fun h69 => ?_) (fun h69 => ?_)
    · replace h := wI_pos h69 h
      refine g_iincw (q0 := 91) (lv2 := [_, _, _, _]) rfl dX11_markBases_88 rfl (by decide) rfl rfl ?_
      refine g_goto (tgt := 49) dX11_markBases_91 (by decide) ?_
      exact h
    · replace h := wI_neg h69 h
      refine g_aload_n (q0 := 73) (j := 0) rfl dX11_markBases_72 rfl ?_
      refine g_getp (q0 := 76) (b := 470) rfl ff_X11_74 dX11_markBases_73 rfl hOK (by decide) (sh_0 hOK) rfl (by decide) ?_
      refine g_iconst (q0 := 77) rfl dX11_markBases_76 (k := ?_)
      refine g_aload_n (q0 := 78) (j := 0) rfl dX11_markBases_77 rfl ?_
      refine g_getp (q0 := 81) (b := 4) rfl ff_X11_27 dX11_markBases_78 rfl hOK (by decide) (sh_0 hOK) rfl (by decide) ?_
      refine g_getp (q0 := 84) (b := 14) rfl ff_X11_304 dX11_markBases_81 rfl hOK (by decide) (sh_4 hOK) rfl (by decide) ?_
      refine g_iload_n (q0 := 85) (j := 3) rfl dX11_markBases_84 rfl ?_
      obtain ⟨P85, e85, h⟩ := h
      refine g_callVm (as := [_, _, _]) (rest := []) mt_X3_putAll mi_X3_putAll se_X3_putAll ml_X11_556 dX11_markBases_85 (q0 := 88) rfl rfl (sh_470 hOK) rfl rfl e85 rfl ⟨by decide, by decide⟩ (Nat.le_of_ble_eq_true rfl) ⟨Nat.zero_le _, Nat.zero_le _⟩ (fun r85 M85 hP85 hw85 hMw85 => ?_)
      obtain ⟨hr85, hOK2, h⟩ := h r85 M85 hP85
      subst hr85
      refine g_iincw (q0 := 91) (lv2 := [_, _, _, _]) rfl dX11_markBases_88 rfl (by decide) rfl rfl ?_
      refine g_goto (tgt := 49) dX11_markBases_91 (by decide) ?_
      exact h
theorem w_X11_markBases {sh : gS} {Q : Option gV → gS → gM → Prop} {a1 a2 : Int} {M : gM} (hOK : gOK sh M) (h : (∃ P10 : Option gV → gM → Prop, gC (gr 1 23) yX1_markWithAncestors cX1_markWithAncestors 4 none [(4, 4), (0, a1), (4, 470), (0, 0)] sh M (gPm sh P10) ∧ ∀ (r10 : Option gV) (M10 : gM), P10 r10 M10 → r10 = none ∧ gOK sh M10 ∧
    (∃ P23 : Option gV → gM → Prop, gC (gr 1 23) yX1_markWithAncestors cX1_markWithAncestors 4 none [(4, 4), (0, a2), (4, 470), (0, 1)] sh M10 (gPm sh P23) ∧ ∀ (r23 : Option gV) (M23 : gM), P23 r23 M23 → r23 = none ∧ gOK sh M23 ∧
      (∃ P36 : Option gV → gM → Prop, gC (gr 0 0) yX3_onlyIn cX3_onlyIn 4 none [(4, 470), (0, 0), (4, 470), (0, 1)] sh M23 (gPm sh P36) ∧ ∀ (r36 : Option gV) (M36 : gM), P36 r36 M36 → r36 = none ∧ gOK sh M36 ∧
        (∃ P44 : Option gV → gM → Prop, gC (gr 0 0) yX3_clear cX3_clear 2 none [(4, 470), (0, 1)] sh M36 (gPm sh P44) ∧ ∀ (r44 : Option gV) (M44 : gM), P44 r44 M44 → r44 = none ∧ gOK sh M44 ∧
          (P_X11_markBases_49 sh Q a1 a2 0 M44)))))) : gC (gr 2 46) yX11_markBases cX11_markBases 4 none [(4, 0), (0, a1), (0, a2)] sh M Q := by
  refine gC_ofA (lv := [_, _, _, _]) (by decide +kernel) (Nat.le_of_ble_eq_true rfl) rfl (fun hMw hav => ?_)
  refine g_aload_n (q0 := 1) (j := 0) rfl dX11_markBases_0 rfl ?_
  refine g_getp (q0 := 4) (b := 4) rfl ff_X11_27 dX11_markBases_1 rfl hOK (by decide) (sh_0 hOK) rfl (by decide) ?_
  refine g_iload_n (q0 := 5) (j := 1) rfl dX11_markBases_4 rfl ?_
  refine g_aload_n (q0 := 6) (j := 0) rfl dX11_markBases_5 rfl ?_
  refine g_getp (q0 := 9) (b := 470) rfl ff_X11_74 dX11_markBases_6 rfl hOK (by decide) (sh_0 hOK) rfl (by decide) ?_
  refine g_iconst (q0 := 10) rfl dX11_markBases_9 (k := ?_)
  obtain ⟨P10, e10, h⟩ := h
  refine g_callVm (as := [_, _, _]) (rest := []) mt_X1_markWithAncestors mi_X1_markWithAncestors se_X1_markWithAncestors ml_X11_549 dX11_markBases_10 (q0 := 13) rfl rfl (sh_4 hOK) rfl rfl e10 rfl ⟨by decide, by decide⟩ (Nat.le_of_ble_eq_true rfl) ⟨Nat.zero_le _, Nat.zero_le _⟩ (fun r10 M10 hP10 hw10 hMw10 => ?_)
  obtain ⟨hr10, hOK3, h⟩ := h r10 M10 hP10
  subst hr10
  refine g_aload_n (q0 := 14) (j := 0) rfl dX11_markBases_13 rfl ?_
  refine g_getp (q0 := 17) (b := 4) rfl ff_X11_27 dX11_markBases_14 rfl hOK3 (by decide) (sh_0 hOK3) rfl (by decide) ?_
  refine g_iload_n (q0 := 18) (j := 2) rfl dX11_markBases_17 rfl ?_
  refine g_aload_n (q0 := 19) (j := 0) rfl dX11_markBases_18 rfl ?_
  refine g_getp (q0 := 22) (b := 470) rfl ff_X11_74 dX11_markBases_19 rfl hOK3 (by decide) (sh_0 hOK3) rfl (by decide) ?_
  refine g_iconst (q0 := 23) rfl dX11_markBases_22 (k := ?_)
  obtain ⟨P23, e23, h⟩ := h
  refine g_callVm (as := [_, _, _]) (rest := []) mt_X1_markWithAncestors mi_X1_markWithAncestors se_X1_markWithAncestors ml_X11_549 dX11_markBases_23 (q0 := 26) rfl rfl (sh_4 hOK3) rfl rfl e23 rfl ⟨by decide, by decide⟩ (Nat.le_of_ble_eq_true rfl) ⟨Nat.zero_le _, Nat.zero_le _⟩ (fun r23 M23 hP23 hw23 hMw23 => ?_)
  obtain ⟨hr23, hOK4, h⟩ := h r23 M23 hP23
  subst hr23
  refine g_aload_n (q0 := 27) (j := 0) rfl dX11_markBases_26 rfl ?_
  refine g_getp (q0 := 30) (b := 470) rfl ff_X11_74 dX11_markBases_27 rfl hOK4 (by decide) (sh_0 hOK4) rfl (by decide) ?_
  refine g_iconst (q0 := 31) rfl dX11_markBases_30 (k := ?_)
  refine g_aload_n (q0 := 32) (j := 0) rfl dX11_markBases_31 rfl ?_
  refine g_getp (q0 := 35) (b := 470) rfl ff_X11_74 dX11_markBases_32 rfl hOK4 (by decide) (sh_0 hOK4) rfl (by decide) ?_
  refine g_iconst (q0 := 36) rfl dX11_markBases_35 (k := ?_)
  obtain ⟨P36, e36, h⟩ := h
  refine g_callVm (as := [_, _, _]) (rest := []) mt_X3_onlyIn mi_X3_onlyIn se_X3_onlyIn ml_X11_553 dX11_markBases_36 (q0 := 39) rfl rfl (sh_470 hOK4) rfl rfl e36 rfl ⟨by decide, by decide⟩ (Nat.le_of_ble_eq_true rfl) ⟨Nat.zero_le _, Nat.zero_le _⟩ (fun r36 M36 hP36 hw36 hMw36 => ?_)
  obtain ⟨hr36, hOK5, h⟩ := h r36 M36 hP36
  subst hr36
  refine g_aload_n (q0 := 40) (j := 0) rfl dX11_markBases_39 rfl ?_
  refine g_getp (q0 := 43) (b := 470) rfl ff_X11_74 dX11_markBases_40 rfl hOK5 (by decide) (sh_0 hOK5) rfl (by decide) ?_
  refine g_iconst (q0 := 44) rfl dX11_markBases_43 (k := ?_)
  obtain ⟨P44, e44, h⟩ := h
  refine g_callVm (as := [_]) (rest := []) mt_X3_clear mi_X3_clear se_X3_clear ml_X11_500 dX11_markBases_44 (q0 := 47) rfl rfl (sh_470 hOK5) rfl rfl e44 rfl ⟨by decide, by decide⟩ (Nat.le_of_ble_eq_true rfl) ⟨Nat.zero_le _, Nat.zero_le _⟩ (fun r44 M44 hP44 hw44 hMw44 => ?_)
  obtain ⟨hr44, hOK6, h⟩ := h r44 M44 hP44
  subst hr44
  refine g_iconst (q0 := 48) rfl dX11_markBases_47 (k := ?_)
  refine g_istore_n (q0 := 49) (j := 3) (lv2 := [_, _, _, _]) rfl dX11_markBases_48 (by decide) rfl rfl ?_
  exact h
-- ==== X11_way
theorem dX11_way_0 : decode cX11_way 0 = .ok (.aload_n 0, 1) := by decide +kernel
theorem dX11_way_1 : decode cX11_way 1 = .ok (.getfield 27, 3) := by decide +kernel
theorem dX11_way_4 : decode cX11_way 4 = .ok (.iload_n 1, 1) := by decide +kernel
theorem dX11_way_5 : decode cX11_way 5 = .ok (.invokevirtual 152, 3) := by decide +kernel
theorem dX11_way_8 : decode cX11_way 8 = .ok (.ifCond .eq 14, 3) := by decide +kernel
theorem dX11_way_11 : decode cX11_way 11 = .ok (.aload_n 0, 1) := by decide +kernel
theorem dX11_way_12 : decode cX11_way 12 = .ok (.getfield 27, 3) := by decide +kernel
theorem dX11_way_15 : decode cX11_way 15 = .ok (.iload_n 2, 1) := by decide +kernel
theorem dX11_way_16 : decode cX11_way 16 = .ok (.invokevirtual 152, 3) := by decide +kernel
theorem dX11_way_19 : decode cX11_way 19 = .ok (.ifCond .ne 5, 3) := by decide +kernel
theorem dX11_way_22 : decode cX11_way 22 = .ok (.iconst (-1), 1) := by decide +kernel
theorem dX11_way_23 : decode cX11_way 23 = .ok (.ireturn, 1) := by decide +kernel
theorem dX11_way_24 : decode cX11_way 24 = .ok (.aload_n 0, 1) := by decide +kernel
theorem dX11_way_25 : decode cX11_way 25 = .ok (.getfield 78, 3) := by decide +kernel
theorem dX11_way_28 : decode cX11_way 28 = .ok (.iconst (-1), 1) := by decide +kernel
theorem dX11_way_29 : decode cX11_way 29 = .ok (.invokestatic 527, 3) := by decide +kernel
theorem dX11_way_32 : decode cX11_way 32 = .ok (.aload_n 0, 1) := by decide +kernel
theorem dX11_way_33 : decode cX11_way 33 = .ok (.getfield 78, 3) := by decide +kernel
theorem dX11_way_36 : decode cX11_way 36 = .ok (.iload_n 2, 1) := by decide +kernel
theorem dX11_way_37 : decode cX11_way 37 = .ok (.iconst 0, 1) := by decide +kernel
theorem dX11_way_38 : decode cX11_way 38 = .ok (.iastore, 1) := by decide +kernel
theorem dX11_way_39 : decode cX11_way 39 = .ok (.iload_n 2, 1) := by decide +kernel
theorem dX11_way_40 : decode cX11_way 40 = .ok (.istore_n 3, 1) := by decide +kernel
theorem dX11_way_41 : decode cX11_way 41 = .ok (.iload_n 3, 1) := by decide +kernel
theorem dX11_way_42 : decode cX11_way 42 = .ok (.iload_n 1, 1) := by decide +kernel
theorem dX11_way_43 : decode cX11_way 43 = .ok (.if_icmp .le 96, 3) := by decide +kernel
theorem dX11_way_46 : decode cX11_way 46 = .ok (.iconst 0, 1) := by decide +kernel
theorem dX11_way_47 : decode cX11_way 47 = .ok (.istore 4, 2) := by decide +kernel
theorem dX11_way_49 : decode cX11_way 49 = .ok (.aload_n 0, 1) := by decide +kernel
theorem dX11_way_50 : decode cX11_way 50 = .ok (.getfield 78, 3) := by decide +kernel
theorem dX11_way_53 : decode cX11_way 53 = .ok (.iload_n 3, 1) := by decide +kernel
theorem dX11_way_54 : decode cX11_way 54 = .ok (.iaload, 1) := by decide +kernel
theorem dX11_way_55 : decode cX11_way 55 = .ok (.ifCond .lt 78, 3) := by decide +kernel
theorem dX11_way_58 : decode cX11_way 58 = .ok (.iload 4, 2) := by decide +kernel
theorem dX11_way_60 : decode cX11_way 60 = .ok (.aload_n 0, 1) := by decide +kernel
theorem dX11_way_61 : decode cX11_way 61 = .ok (.getfield 27, 3) := by decide +kernel
theorem dX11_way_64 : decode cX11_way 64 = .ok (.getfield 295, 3) := by decide +kernel
theorem dX11_way_67 : decode cX11_way 67 = .ok (.iload_n 3, 1) := by decide +kernel
theorem dX11_way_68 : decode cX11_way 68 = .ok (.iaload, 1) := by decide +kernel
theorem dX11_way_69 : decode cX11_way 69 = .ok (.if_icmp .ge 64, 3) := by decide +kernel
theorem dX11_way_72 : decode cX11_way 72 = .ok (.aload_n 0, 1) := by decide +kernel
theorem dX11_way_73 : decode cX11_way 73 = .ok (.getfield 27, 3) := by decide +kernel
theorem dX11_way_76 : decode cX11_way 76 = .ok (.iload_n 3, 1) := by decide +kernel
theorem dX11_way_77 : decode cX11_way 77 = .ok (.iload 4, 2) := by decide +kernel
theorem dX11_way_79 : decode cX11_way 79 = .ok (.invokevirtual 314, 3) := by decide +kernel
theorem dX11_way_82 : decode cX11_way 82 = .ok (.istore 5, 2) := by decide +kernel
theorem dX11_way_84 : decode cX11_way 84 = .ok (.aload_n 0, 1) := by decide +kernel
theorem dX11_way_85 : decode cX11_way 85 = .ok (.getfield 78, 3) := by decide +kernel
theorem dX11_way_88 : decode cX11_way 88 = .ok (.iload 5, 2) := by decide +kernel
theorem dX11_way_90 : decode cX11_way 90 = .ok (.iaload, 1) := by decide +kernel
theorem dX11_way_91 : decode cX11_way 91 = .ok (.ifCond .lt 21, 3) := by decide +kernel
theorem dX11_way_94 : decode cX11_way 94 = .ok (.aload_n 0, 1) := by decide +kernel
theorem dX11_way_95 : decode cX11_way 95 = .ok (.getfield 78, 3) := by decide +kernel
theorem dX11_way_98 : decode cX11_way 98 = .ok (.iload 5, 2) := by decide +kernel
theorem dX11_way_100 : decode cX11_way 100 = .ok (.iaload, 1) := by decide +kernel
theorem dX11_way_101 : decode cX11_way 101 = .ok (.aload_n 0, 1) := by decide +kernel
theorem dX11_way_102 : decode cX11_way 102 = .ok (.getfield 78, 3) := by decide +kernel
theorem dX11_way_105 : decode cX11_way 105 = .ok (.iload_n 3, 1) := by decide +kernel
theorem dX11_way_106 : decode cX11_way 106 = .ok (.iaload, 1) := by decide +kernel
theorem dX11_way_107 : decode cX11_way 107 = .ok (.iconst 1, 1) := by decide +kernel
theorem dX11_way_108 : decode cX11_way 108 = .ok (.iadd, 1) := by decide +kernel
theorem dX11_way_109 : decode cX11_way 109 = .ok (.if_icmp .le 18, 3) := by decide +kernel
theorem dX11_way_112 : decode cX11_way 112 = .ok (.aload_n 0, 1) := by decide +kernel
theorem dX11_way_113 : decode cX11_way 113 = .ok (.getfield 78, 3) := by decide +kernel
theorem dX11_way_116 : decode cX11_way 116 = .ok (.iload 5, 2) := by decide +kernel
theorem dX11_way_118 : decode cX11_way 118 = .ok (.aload_n 0, 1) := by decide +kernel
theorem dX11_way_119 : decode cX11_way 119 = .ok (.getfield 78, 3) := by decide +kernel
theorem dX11_way_122 : decode cX11_way 122 = .ok (.iload_n 3, 1) := by decide +kernel
theorem dX11_way_123 : decode cX11_way 123 = .ok (.iaload, 1) := by decide +kernel
theorem dX11_way_124 : decode cX11_way 124 = .ok (.iconst 1, 1) := by decide +kernel
theorem dX11_way_125 : decode cX11_way 125 = .ok (.iadd, 1) := by decide +kernel
theorem dX11_way_126 : decode cX11_way 126 = .ok (.iastore, 1) := by decide +kernel
theorem dX11_way_127 : decode cX11_way 127 = .ok (.iinc 4 1, 3) := by decide +kernel
theorem dX11_way_130 : decode cX11_way 130 = .ok (.goto (-81), 3) := by decide +kernel
theorem dX11_way_133 : decode cX11_way 133 = .ok (.iinc 3 (-1), 3) := by decide +kernel
theorem dX11_way_136 : decode cX11_way 136 = .ok (.goto (-95), 3) := by decide +kernel
theorem dX11_way_139 : decode cX11_way 139 = .ok (.aload_n 0, 1) := by decide +kernel
theorem dX11_way_140 : decode cX11_way 140 = .ok (.getfield 78, 3) := by decide +kernel
theorem dX11_way_143 : decode cX11_way 143 = .ok (.iload_n 1, 1) := by decide +kernel
theorem dX11_way_144 : decode cX11_way 144 = .ok (.iaload, 1) := by decide +kernel
theorem dX11_way_145 : decode cX11_way 145 = .ok (.ifCond .ge 8, 3) := by decide +kernel
theorem dX11_way_148 : decode cX11_way 148 = .ok (.bipush (-2), 2) := by decide +kernel
theorem dX11_way_150 : decode cX11_way 150 = .ok (.goto 9, 3) := by decide +kernel
theorem dX11_way_153 : decode cX11_way 153 = .ok (.aload_n 0, 1) := by decide +kernel
theorem dX11_way_154 : decode cX11_way 154 = .ok (.getfield 78, 3) := by decide +kernel
theorem dX11_way_157 : decode cX11_way 157 = .ok (.iload_n 1, 1) := by decide +kernel
theorem dX11_way_158 : decode cX11_way 158 = .ok (.iaload, 1) := by decide +kernel
theorem dX11_way_159 : decode cX11_way 159 = .ok (.ireturn, 1) := by decide +kernel
def P_X11_way_41 (sh : gS) (Q : Option gV → gS → gM → Prop) (x1 x2 x3 : Int) (M : gM) : Prop := gA (gr 1 23) yX11_way cX11_way 6 (some (.int)) Q (0, 0) 41 [(4, 0), (0, x1), (0, x2), (0, x3), (9, 0), (9, 0)] [] sh M
def P_X11_way_49 (sh : gS) (Q : Option gV → gS → gM → Prop) (x1 x2 x3 x4 : Int) (M : gM) : Prop := gA (gr 1 23) yX11_way cX11_way 6 (some (.int)) Q (0, 0) 49 [(4, 0), (0, x1), (0, x2), (0, x3), (0, x4), (9, 0)] [] sh M
theorem w_X11_way_41 {sh : gS} {Q : Option gV → gS → gM → Prop} {x1 x2 x3 : Int} {M : gM} (hOK : gOK sh M) (h : (if x1 < x3 then
    (P_X11_way_49 sh Q x1 x2 x3 0 M)
  else
    ((0 ≤ x1 ∧ x1 < 120) ∧
      (if (M 473 x1) < 0 then
        (Q (some (0, -2)) sh M)
      else
        (Q (some (0, (M 473 x1))) sh M))))) : P_X11_way_41 sh Q x1 x2 x3 M := by
  unfold P_X11_way_41
  refine g_iload_n (q0 := 42) (j := 3) rfl dX11_way_41 rfl ?_
  refine g_iload_n (q0 := 43) (j := 1) rfl dX11_way_42 rfl ?_
  refine g_icmp_le (q0 := 46) (tgt := 139) rfl dX11_way_43 (by decide) (fun h43 => ?_) (fun h43 => ?_)
  · replace h := wI_neg (Int.not_lt.mpr h43) h
    refine g_aload_n (q0 := 140) (j := 0) rfl dX11_way_139 rfl ?_
    refine g_getp (q0 := 143) (b := 473) rfl ff_X11_78 dX11_way_140 rfl hOK (by decide) (sh_0 hOK) rfl (by decide) ?_
    refine g_iload_n (q0 := 144) (j := 1) rfl dX11_way_143 rfl ?_
    obtain ⟨g1, h⟩ := h
    refine g_iald (q0 := 145) rfl dX11_way_144 (sh_473 hOK) g1.1 g1.2 ?_
    refine g_if_ge (q0 := 148) (tgt := 153) rfl dX11_way_145 (by decide) (fun h145 => ?_) (fun h145 => ?_)
    · replace h := wI_neg (Int.not_lt.mpr h145) h
      refine g_aload_n (q0 := 154) (j := 0) rfl dX11_way_153 rfl ?_
      refine g_getp (q0 := 157) (b := 473) rfl ff_X11_78 dX11_way_154 rfl hOK (by decide) (sh_0 hOK) rfl (by decide) ?_
      refine g_iload_n (q0 := 158) (j := 1) rfl dX11_way_157 rfl ?_
      refine g_iald (q0 := 159) rfl dX11_way_158 (sh_473 hOK) g1.1 g1.2 ?_
      exact g_ireturn dX11_way_159 rfl ⟨Nat.zero_le _, Nat.zero_le _⟩ h
    · replace h := wI_pos h145 h
      refine g_bipush (q0 := 150) rfl dX11_way_148 (k := ?_)
      refine g_goto (tgt := 159) dX11_way_150 (by decide) ?_
      exact g_ireturn dX11_way_159 rfl ⟨Nat.zero_le _, Nat.zero_le _⟩ h
  · replace h := wI_pos h43 h
    refine g_iconst (q0 := 47) rfl dX11_way_46 (k := ?_)
    refine g_istore (q0 := 49) (j := 4) (lv2 := [_, _, _, _, _, _]) rfl dX11_way_47 (by decide) rfl rfl ?_
    exact h
theorem w_X11_way_49 {sh : gS} {Q : Option gV → gS → gM → Prop} {x1 x2 x3 x4 : Int} {M : gM} (hOK : gOK sh M) (h : ((0 ≤ x3 ∧ x3 < 120) ∧
    (if (M 473 x3) < 0 then
      (P_X11_way_41 sh Q x1 x2 (gw32 (x3 + (-1))) M)
    else
      (if x4 < (M 5 x3) then
        (∃ v79 : Int, gC (gr 0 0) yX1_parent cX1_parent 3 (some (.int)) [(4, 4), (0, x3), (0, x4)] sh M (gPp sh M (0, v79)) ∧
          ((0 ≤ v79 ∧ v79 < 120) ∧
            (if (M 473 v79) < 0 then
              (P_X11_way_49 sh Q x1 x2 x3 (gw32 (x4 + 1)) (gU M 473 v79 (gw32 ((M 473 x3) + (1 : Int)))))
            else
              (if (gw32 ((M 473 x3) + (1 : Int))) < (M 473 v79) then
                (P_X11_way_49 sh Q x1 x2 x3 (gw32 (x4 + 1)) (gU M 473 v79 (gw32 ((M 473 x3) + (1 : Int)))))
              else
                (P_X11_way_49 sh Q x1 x2 x3 (gw32 (x4 + 1)) M)))))
      else
        (P_X11_way_41 sh Q x1 x2 (gw32 (x3 + (-1))) M))))) : P_X11_way_49 sh Q x1 x2 x3 x4 M := by
  unfold P_X11_way_49
  refine g_aload_n (q0 := 50) (j := 0) rfl dX11_way_49 rfl ?_
  refine g_getp (q0 := 53) (b := 473) rfl ff_X11_78 dX11_way_50 rfl hOK (by decide) (sh_0 hOK) rfl (by decide) ?_
  refine g_iload_n (q0 := 54) (j := 3) rfl dX11_way_53 rfl ?_
  obtain ⟨g2, h⟩ := h
  refine g_iald (q0 := 55) rfl dX11_way_54 (sh_473 hOK) g2.1 g2.2 ?_
  refine g_if_lt (q0 := 58) (tgt := 133) rfl dX11_way_55 (by decide) (fun h55 => ?_) (fun h55 => ?_)
  · replace h := wI_pos h55 h
    refine g_iincw (q0 := 136) (lv2 := [_, _, _, _, _, _]) rfl dX11_way_133 rfl (by decide) rfl rfl ?_
    refine g_goto (tgt := 41) dX11_way_136 (by decide) ?_
    refine gA_jk (lv1 := [_, _, _, _, (9, 0), (9, 0)]) ⟨.inl rfl, .inl rfl, .inl rfl, .inl rfl, .inr rfl, .inr rfl, trivial⟩ ?_
    exact h
  · replace h := wI_neg (Int.not_lt.mpr h55) h
    refine g_iload (q0 := 60) (j := 4) rfl dX11_way_58 rfl ?_
    refine g_aload_n (q0 := 61) (j := 0) rfl dX11_way_60 rfl ?_
    refine g_getp (q0 := 64) (b := 4) rfl ff_X11_27 dX11_way_61 rfl hOK (by decide) (sh_0 hOK) rfl (by decide) ?_
    refine g_getp (q0 := 67) (b := 5) rfl ff_X11_295 dX11_way_64 rfl hOK (by decide) (sh_4 hOK) rfl (by decide) ?_
    refine g_iload_n (q0 := 68) (j := 3) rfl dX11_way_67 rfl ?_
    refine g_iald (q0 := 69) rfl dX11_way_68 (sh_5 hOK) g2.1 g2.2 ?_
    refine g_icmp_ge (q0 := 72) (tgt := 133) rfl dX11_way_69 (by decide) (fun h69 => ?_) (fun h69 => ?_)
    · replace h := wI_neg (Int.not_lt.mpr h69) h
      refine g_iincw (q0 := 136) (lv2 := [_, _, _, _, _, _]) rfl dX11_way_133 rfl (by decide) rfl rfl ?_
      refine g_goto (tgt := 41) dX11_way_136 (by decide) ?_
      refine gA_jk (lv1 := [_, _, _, _, (9, 0), (9, 0)]) ⟨.inl rfl, .inl rfl, .inl rfl, .inl rfl, .inr rfl, .inr rfl, trivial⟩ ?_
      exact h
    · replace h := wI_pos h69 h
      refine g_aload_n (q0 := 73) (j := 0) rfl dX11_way_72 rfl ?_
      refine g_getp (q0 := 76) (b := 4) rfl ff_X11_27 dX11_way_73 rfl hOK (by decide) (sh_0 hOK) rfl (by decide) ?_
      refine g_iload_n (q0 := 77) (j := 3) rfl dX11_way_76 rfl ?_
      refine g_iload (q0 := 79) (j := 4) rfl dX11_way_77 rfl ?_
      obtain ⟨v79, e79, h⟩ := h
      refine g_callVp (as := [_, _]) (rest := []) mt_X1_parent mi_X1_parent se_X1_parent ml_X11_314 dX11_way_79 (q0 := 82) rfl rfl (sh_4 hOK) rfl rfl e79 rfl ⟨by decide, by decide⟩ (Nat.le_of_ble_eq_true rfl) ⟨Nat.zero_le _, Nat.zero_le _⟩ (fun _ => ?_)
      refine g_istore (q0 := 84) (j := 5) (lv2 := [_, _, _, _, _, _]) rfl dX11_way_82 (by decide) rfl rfl ?_
      refine g_aload_n (q0 := 85) (j := 0) rfl dX11_way_84 rfl ?_
      refine g_getp (q0 := 88) (b := 473) rfl ff_X11_78 dX11_way_85 rfl hOK (by decide) (sh_0 hOK) rfl (by decide) ?_
      refine g_iload (q0 := 90) (j := 5) rfl dX11_way_88 rfl ?_
      obtain ⟨g3, h⟩ := h
      refine g_iald (q0 := 91) rfl dX11_way_90 (sh_473 hOK) g3.1 g3.2 ?_
      refine g_if_lt (q0 := 94) (tgt := 112) rfl dX11_way_91 (by decide) (fun h91 => ?_) (fun h91 => ?_)
      · replace h := wI_pos h91 h
        refine g_aload_n (q0 := 113) (j := 0) rfl dX11_way_112 rfl ?_
        refine g_getp (q0 := 116) (b := 473) rfl ff_X11_78 dX11_way_113 rfl hOK (by decide) (sh_0 hOK) rfl (by decide) ?_
        refine g_iload (q0 := 118) (j := 5) rfl dX11_way_116 rfl ?_
        refine g_aload_n (q0 := 119) (j := 0) rfl dX11_way_118 rfl ?_
        refine g_getp (q0 := 122) (b := 473) rfl ff_X11_78 dX11_way_119 rfl hOK (by decide) (sh_0 hOK) rfl (by decide) ?_
        refine g_iload_n (q0 := 123) (j := 3) rfl dX11_way_122 rfl ?_
        refine g_iald (q0 := 124) rfl dX11_way_123 (sh_473 hOK) g2.1 g2.2 ?_
        refine g_iconst (q0 := 125) rfl dX11_way_124 (k := ?_)
        refine g_iaddw (q0 := 126) rfl dX11_way_125 ?_
        refine g_iast (q0 := 127) rfl dX11_way_126 (sh_473 hOK) g3.1 g3.2 ?_
        have hOK4 : gOK sh (gU M 473 v79 (gw32 ((M 473 x3) + (1 : Int)))) := gOK_i hOK (sh_473 hOK)
        refine g_iincw (q0 := 130) (lv2 := [_, _, _, _, _, _]) rfl dX11_way_127 rfl (by decide) rfl rfl ?_
        refine g_goto (tgt := 49) dX11_way_130 (by decide) ?_
        refine gA_jk (lv1 := [_, _, _, _, _, (9, 0)]) ⟨.inl rfl, .inl rfl, .inl rfl, .inl rfl, .inl rfl, .inr rfl, trivial⟩ ?_
        exact h
      · replace h := wI_neg (Int.not_lt.mpr h91) h
        refine g_aload_n (q0 := 95) (j := 0) rfl dX11_way_94 rfl ?_
        refine g_getp (q0 := 98) (b := 473) rfl ff_X11_78 dX11_way_95 rfl hOK (by decide) (sh_0 hOK) rfl (by decide) ?_
        refine g_iload (q0 := 100) (j := 5) rfl dX11_way_98 rfl ?_
        refine g_iald (q0 := 101) rfl dX11_way_100 (sh_473 hOK) g3.1 g3.2 ?_
        refine g_aload_n (q0 := 102) (j := 0) rfl dX11_way_101 rfl ?_
        refine g_getp (q0 := 105) (b := 473) rfl ff_X11_78 dX11_way_102 rfl hOK (by decide) (sh_0 hOK) rfl (by decide) ?_
        refine g_iload_n (q0 := 106) (j := 3) rfl dX11_way_105 rfl ?_
        refine g_iald (q0 := 107) rfl dX11_way_106 (sh_473 hOK) g2.1 g2.2 ?_
        refine g_iconst (q0 := 108) rfl dX11_way_107 (k := ?_)
        refine g_iaddw (q0 := 109) rfl dX11_way_108 ?_
        refine g_icmp_le (q0 := 112) (tgt := 127) rfl dX11_way_109 (by decide) (fun h109 => ?_) (fun h109 => ?_)
        · replace h := wI_neg (Int.not_lt.mpr h109) h
          refine g_iincw (q0 := 130) (lv2 := [_, _, _, _, _, _]) rfl dX11_way_127 rfl (by decide) rfl rfl ?_
          refine g_goto (tgt := 49) dX11_way_130 (by decide) ?_
          refine gA_jk (lv1 := [_, _, _, _, _, (9, 0)]) ⟨.inl rfl, .inl rfl, .inl rfl, .inl rfl, .inl rfl, .inr rfl, trivial⟩ ?_
          exact h
        · replace h := wI_pos h109 h
          refine g_aload_n (q0 := 113) (j := 0) rfl dX11_way_112 rfl ?_
          refine g_getp (q0 := 116) (b := 473) rfl ff_X11_78 dX11_way_113 rfl hOK (by decide) (sh_0 hOK) rfl (by decide) ?_
          refine g_iload (q0 := 118) (j := 5) rfl dX11_way_116 rfl ?_
          refine g_aload_n (q0 := 119) (j := 0) rfl dX11_way_118 rfl ?_
          refine g_getp (q0 := 122) (b := 473) rfl ff_X11_78 dX11_way_119 rfl hOK (by decide) (sh_0 hOK) rfl (by decide) ?_
          refine g_iload_n (q0 := 123) (j := 3) rfl dX11_way_122 rfl ?_
          refine g_iald (q0 := 124) rfl dX11_way_123 (sh_473 hOK) g2.1 g2.2 ?_
          refine g_iconst (q0 := 125) rfl dX11_way_124 (k := ?_)
          refine g_iaddw (q0 := 126) rfl dX11_way_125 ?_
          refine g_iast (q0 := 127) rfl dX11_way_126 (sh_473 hOK) g3.1 g3.2 ?_
          have hOK5 : gOK sh (gU M 473 v79 (gw32 ((M 473 x3) + (1 : Int)))) := gOK_i hOK (sh_473 hOK)
          refine g_iincw (q0 := 130) (lv2 := [_, _, _, _, _, _]) rfl dX11_way_127 rfl (by decide) rfl rfl ?_
          refine g_goto (tgt := 49) dX11_way_130 (by decide) ?_
          refine gA_jk (lv1 := [_, _, _, _, _, (9, 0)]) ⟨.inl rfl, .inl rfl, .inl rfl, .inl rfl, .inl rfl, .inr rfl, trivial⟩ ?_
          exact h
theorem w_X11_way {sh : gS} {Q : Option gV → gS → gM → Prop} {a1 a2 : Int} {M : gM} (hOK : gOK sh M) (h : (∃ v5 : Int, gC (gr 0 0) yX1_has cX1_has 2 (some (.boolean)) [(4, 4), (0, a1)] sh M (gPp sh M (0, v5)) ∧
    (if v5 = 0 then
      (Q (some (0, -1)) sh M)
    else
      (∃ v16 : Int, gC (gr 0 0) yX1_has cX1_has 2 (some (.boolean)) [(4, 4), (0, a2)] sh M (gPp sh M (0, v16)) ∧
        (if v16 = 0 then
          (Q (some (0, -1)) sh M)
        else
          (∃ P29 : Option gV → gM → Prop, gC (gr 0 0) yJ7_fill_53178 cJ7_fill_53178 4 none [(4, 473), (0, -1)] sh M (gPm sh P29) ∧ ∀ (r29 : Option gV) (M29 : gM), P29 r29 M29 → r29 = none ∧ gOK sh M29 ∧
            ((0 ≤ a2 ∧ a2 < 120) ∧
              (P_X11_way_41 sh Q a1 a2 a2 (gU M29 473 a2 0))))))))) : gC (gr 1 23) yX11_way cX11_way 6 (some (.int)) [(4, 0), (0, a1), (0, a2)] sh M Q := by
  refine gC_ofA (lv := [_, _, _, _, _, _]) (by decide +kernel) (Nat.le_of_ble_eq_true rfl) rfl (fun hMw hav => ?_)
  refine g_aload_n (q0 := 1) (j := 0) rfl dX11_way_0 rfl ?_
  refine g_getp (q0 := 4) (b := 4) rfl ff_X11_27 dX11_way_1 rfl hOK (by decide) (sh_0 hOK) rfl (by decide) ?_
  refine g_iload_n (q0 := 5) (j := 1) rfl dX11_way_4 rfl ?_
  obtain ⟨v5, e5, h⟩ := h
  refine g_callVp (as := [_]) (rest := []) mt_X1_has mi_X1_has se_X1_has ml_X11_152 dX11_way_5 (q0 := 8) rfl rfl (sh_4 hOK) rfl rfl e5 rfl ⟨by decide, by decide⟩ (Nat.le_of_ble_eq_true rfl) ⟨Nat.zero_le _, Nat.zero_le _⟩ (fun _ => ?_)
  refine g_if_eq (q0 := 11) (tgt := 22) rfl dX11_way_8 (by decide) (fun h8 => ?_) (fun h8 => ?_)
  · replace h := wI_pos h8 h
    refine g_iconst (q0 := 23) rfl dX11_way_22 (k := ?_)
    exact g_ireturn dX11_way_23 rfl ⟨Nat.zero_le _, Nat.zero_le _⟩ h
  · replace h := wI_neg h8 h
    refine g_aload_n (q0 := 12) (j := 0) rfl dX11_way_11 rfl ?_
    refine g_getp (q0 := 15) (b := 4) rfl ff_X11_27 dX11_way_12 rfl hOK (by decide) (sh_0 hOK) rfl (by decide) ?_
    refine g_iload_n (q0 := 16) (j := 2) rfl dX11_way_15 rfl ?_
    obtain ⟨v16, e16, h⟩ := h
    refine g_callVp (as := [_]) (rest := []) mt_X1_has mi_X1_has se_X1_has ml_X11_152 dX11_way_16 (q0 := 19) rfl rfl (sh_4 hOK) rfl rfl e16 rfl ⟨by decide, by decide⟩ (Nat.le_of_ble_eq_true rfl) ⟨Nat.zero_le _, Nat.zero_le _⟩ (fun _ => ?_)
    refine g_if_ne (q0 := 22) (tgt := 24) rfl dX11_way_19 (by decide) (fun h19 => ?_) (fun h19 => ?_)
    · replace h := wI_neg h19 h
      refine g_aload_n (q0 := 25) (j := 0) rfl dX11_way_24 rfl ?_
      refine g_getp (q0 := 28) (b := 473) rfl ff_X11_78 dX11_way_25 rfl hOK (by decide) (sh_0 hOK) rfl (by decide) ?_
      refine g_iconst (q0 := 29) rfl dX11_way_28 (k := ?_)
      obtain ⟨P29, e29, h⟩ := h
      refine g_callSm (as := [_, _]) (rest := []) mt_J7_fill_53178 ms_J7_fill_53178 ml_X11_527 dX11_way_29 (q0 := 32) rfl rfl e29 rfl ⟨by decide, by decide⟩ (Nat.le_of_ble_eq_true rfl) ⟨Nat.zero_le _, Nat.zero_le _⟩ (fun r29 M29 hP29 hw29 hMw29 => ?_)
      obtain ⟨hr29, hOK6, h⟩ := h r29 M29 hP29
      subst hr29
      refine g_aload_n (q0 := 33) (j := 0) rfl dX11_way_32 rfl ?_
      refine g_getp (q0 := 36) (b := 473) rfl ff_X11_78 dX11_way_33 rfl hOK6 (by decide) (sh_0 hOK6) rfl (by decide) ?_
      refine g_iload_n (q0 := 37) (j := 2) rfl dX11_way_36 rfl ?_
      refine g_iconst (q0 := 38) rfl dX11_way_37 (k := ?_)
      obtain ⟨g7, h⟩ := h
      refine g_iast (q0 := 39) rfl dX11_way_38 (sh_473 hOK6) g7.1 g7.2 ?_
      have hOK8 : gOK sh (gU M29 473 a2 0) := gOK_i hOK6 (sh_473 hOK6)
      refine g_iload_n (q0 := 40) (j := 2) rfl dX11_way_39 rfl ?_
      refine g_istore_n (q0 := 41) (j := 3) (lv2 := [_, _, _, _, _, _]) rfl dX11_way_40 (by decide) rfl rfl ?_
      exact h
    · replace h := wI_pos h19 h
      refine g_iconst (q0 := 23) rfl dX11_way_22 (k := ?_)
      exact g_ireturn dX11_way_23 rfl ⟨Nat.zero_le _, Nat.zero_le _⟩ h
-- ==== X11_halving
theorem dX11_halving_0 : decode cX11_halving 0 = .ok (.aload_n 0, 1) := by decide +kernel
theorem dX11_halving_1 : decode cX11_halving 1 = .ok (.getfield 27, 3) := by decide +kernel
theorem dX11_halving_4 : decode cX11_halving 4 = .ok (.iload_n 1, 1) := by decide +kernel
theorem dX11_halving_5 : decode cX11_halving 5 = .ok (.invokevirtual 152, 3) := by decide +kernel
theorem dX11_halving_8 : decode cX11_halving 8 = .ok (.ifCond .eq 23, 3) := by decide +kernel
theorem dX11_halving_11 : decode cX11_halving 11 = .ok (.aload_n 0, 1) := by decide +kernel
theorem dX11_halving_12 : decode cX11_halving 12 = .ok (.getfield 27, 3) := by decide +kernel
theorem dX11_halving_15 : decode cX11_halving 15 = .ok (.iload_n 2, 1) := by decide +kernel
theorem dX11_halving_16 : decode cX11_halving 16 = .ok (.invokevirtual 152, 3) := by decide +kernel
theorem dX11_halving_19 : decode cX11_halving 19 = .ok (.ifCond .eq 12, 3) := by decide +kernel
theorem dX11_halving_22 : decode cX11_halving 22 = .ok (.iload_n 3, 1) := by decide +kernel
theorem dX11_halving_23 : decode cX11_halving 23 = .ok (.ifCond .lt 8, 3) := by decide +kernel
theorem dX11_halving_26 : decode cX11_halving 26 = .ok (.iload_n 3, 1) := by decide +kernel
theorem dX11_halving_27 : decode cX11_halving 27 = .ok (.iconst 2, 1) := by decide +kernel
theorem dX11_halving_28 : decode cX11_halving 28 = .ok (.if_icmp .le 5, 3) := by decide +kernel
theorem dX11_halving_31 : decode cX11_halving 31 = .ok (.iconst (-1), 1) := by decide +kernel
theorem dX11_halving_32 : decode cX11_halving 32 = .ok (.ireturn, 1) := by decide +kernel
theorem dX11_halving_33 : decode cX11_halving 33 = .ok (.aload_n 0, 1) := by decide +kernel
theorem dX11_halving_34 : decode cX11_halving 34 = .ok (.getfield 27, 3) := by decide +kernel
theorem dX11_halving_37 : decode cX11_halving 37 = .ok (.iload_n 2, 1) := by decide +kernel
theorem dX11_halving_38 : decode cX11_halving 38 = .ok (.aload_n 0, 1) := by decide +kernel
theorem dX11_halving_39 : decode cX11_halving 39 = .ok (.getfield 74, 3) := by decide +kernel
theorem dX11_halving_42 : decode cX11_halving 42 = .ok (.iconst 0, 1) := by decide +kernel
theorem dX11_halving_43 : decode cX11_halving 43 = .ok (.invokevirtual 549, 3) := by decide +kernel
theorem dX11_halving_46 : decode cX11_halving 46 = .ok (.aload_n 0, 1) := by decide +kernel
theorem dX11_halving_47 : decode cX11_halving 47 = .ok (.getfield 27, 3) := by decide +kernel
theorem dX11_halving_50 : decode cX11_halving 50 = .ok (.iload_n 1, 1) := by decide +kernel
theorem dX11_halving_51 : decode cX11_halving 51 = .ok (.aload_n 0, 1) := by decide +kernel
theorem dX11_halving_52 : decode cX11_halving 52 = .ok (.getfield 74, 3) := by decide +kernel
theorem dX11_halving_55 : decode cX11_halving 55 = .ok (.iconst 1, 1) := by decide +kernel
theorem dX11_halving_56 : decode cX11_halving 56 = .ok (.invokevirtual 549, 3) := by decide +kernel
theorem dX11_halving_59 : decode cX11_halving 59 = .ok (.aload_n 0, 1) := by decide +kernel
theorem dX11_halving_60 : decode cX11_halving 60 = .ok (.getfield 74, 3) := by decide +kernel
theorem dX11_halving_63 : decode cX11_halving 63 = .ok (.iconst 0, 1) := by decide +kernel
theorem dX11_halving_64 : decode cX11_halving 64 = .ok (.aload_n 0, 1) := by decide +kernel
theorem dX11_halving_65 : decode cX11_halving 65 = .ok (.getfield 74, 3) := by decide +kernel
theorem dX11_halving_68 : decode cX11_halving 68 = .ok (.iconst 1, 1) := by decide +kernel
theorem dX11_halving_69 : decode cX11_halving 69 = .ok (.invokevirtual 559, 3) := by decide +kernel
theorem dX11_halving_72 : decode cX11_halving 72 = .ok (.aload_n 0, 1) := by decide +kernel
theorem dX11_halving_73 : decode cX11_halving 73 = .ok (.getfield 74, 3) := by decide +kernel
theorem dX11_halving_76 : decode cX11_halving 76 = .ok (.iconst 0, 1) := by decide +kernel
theorem dX11_halving_77 : decode cX11_halving 77 = .ok (.invokevirtual 307, 3) := by decide +kernel
theorem dX11_halving_80 : decode cX11_halving 80 = .ok (.istore 4, 2) := by decide +kernel
theorem dX11_halving_82 : decode cX11_halving 82 = .ok (.iload_n 3, 1) := by decide +kernel
theorem dX11_halving_83 : decode cX11_halving 83 = .ok (.ifCond .ne 6, 3) := by decide +kernel
theorem dX11_halving_86 : decode cX11_halving 86 = .ok (.iload 4, 2) := by decide +kernel
theorem dX11_halving_88 : decode cX11_halving 88 = .ok (.ireturn, 1) := by decide +kernel
theorem dX11_halving_89 : decode cX11_halving 89 = .ok (.bipush (-2), 2) := by decide +kernel
theorem dX11_halving_91 : decode cX11_halving 91 = .ok (.istore 5, 2) := by decide +kernel
theorem dX11_halving_93 : decode cX11_halving 93 = .ok (.bipush (-2), 2) := by decide +kernel
theorem dX11_halving_95 : decode cX11_halving 95 = .ok (.istore 6, 2) := by decide +kernel
theorem dX11_halving_97 : decode cX11_halving 97 = .ok (.iconst (-1), 1) := by decide +kernel
theorem dX11_halving_98 : decode cX11_halving 98 = .ok (.istore 7, 2) := by decide +kernel
theorem dX11_halving_100 : decode cX11_halving 100 = .ok (.iconst 0, 1) := by decide +kernel
theorem dX11_halving_101 : decode cX11_halving 101 = .ok (.istore 8, 2) := by decide +kernel
theorem dX11_halving_103 : decode cX11_halving 103 = .ok (.iload 8, 2) := by decide +kernel
theorem dX11_halving_105 : decode cX11_halving 105 = .ok (.aload_n 0, 1) := by decide +kernel
theorem dX11_halving_106 : decode cX11_halving 106 = .ok (.getfield 27, 3) := by decide +kernel
theorem dX11_halving_109 : decode cX11_halving 109 = .ok (.getfield 135, 3) := by decide +kernel
theorem dX11_halving_112 : decode cX11_halving 112 = .ok (.if_icmp .ge 77, 3) := by decide +kernel
theorem dX11_halving_115 : decode cX11_halving 115 = .ok (.aload_n 0, 1) := by decide +kernel
theorem dX11_halving_116 : decode cX11_halving 116 = .ok (.getfield 74, 3) := by decide +kernel
theorem dX11_halving_119 : decode cX11_halving 119 = .ok (.iconst 0, 1) := by decide +kernel
theorem dX11_halving_120 : decode cX11_halving 120 = .ok (.iload 8, 2) := by decide +kernel
theorem dX11_halving_122 : decode cX11_halving 122 = .ok (.invokevirtual 365, 3) := by decide +kernel
theorem dX11_halving_125 : decode cX11_halving 125 = .ok (.ifCond .ne 6, 3) := by decide +kernel
theorem dX11_halving_128 : decode cX11_halving 128 = .ok (.goto 55, 3) := by decide +kernel
theorem dX11_halving_131 : decode cX11_halving 131 = .ok (.aload_n 0, 1) := by decide +kernel
theorem dX11_halving_132 : decode cX11_halving 132 = .ok (.getfield 74, 3) := by decide +kernel
theorem dX11_halving_135 : decode cX11_halving 135 = .ok (.iconst 0, 1) := by decide +kernel
theorem dX11_halving_136 : decode cX11_halving 136 = .ok (.aload_n 0, 1) := by decide +kernel
theorem dX11_halving_137 : decode cX11_halving 137 = .ok (.getfield 27, 3) := by decide +kernel
theorem dX11_halving_140 : decode cX11_halving 140 = .ok (.getfield 304, 3) := by decide +kernel
theorem dX11_halving_143 : decode cX11_halving 143 = .ok (.iload 8, 2) := by decide +kernel
theorem dX11_halving_145 : decode cX11_halving 145 = .ok (.invokevirtual 506, 3) := by decide +kernel
theorem dX11_halving_148 : decode cX11_halving 148 = .ok (.iconst 1, 1) := by decide +kernel
theorem dX11_halving_149 : decode cX11_halving 149 = .ok (.iadd, 1) := by decide +kernel
theorem dX11_halving_150 : decode cX11_halving 150 = .ok (.istore 9, 2) := by decide +kernel
theorem dX11_halving_152 : decode cX11_halving 152 = .ok (.iload 9, 2) := by decide +kernel
theorem dX11_halving_154 : decode cX11_halving 154 = .ok (.iload 4, 2) := by decide +kernel
theorem dX11_halving_156 : decode cX11_halving 156 = .ok (.iload 9, 2) := by decide +kernel
theorem dX11_halving_158 : decode cX11_halving 158 = .ok (.isub, 1) := by decide +kernel
theorem dX11_halving_159 : decode cX11_halving 159 = .ok (.invokestatic 562, 3) := by decide +kernel
theorem dX11_halving_162 : decode cX11_halving 162 = .ok (.istore 10, 2) := by decide +kernel
theorem dX11_halving_164 : decode cX11_halving 164 = .ok (.iload 10, 2) := by decide +kernel
theorem dX11_halving_166 : decode cX11_halving 166 = .ok (.iload 7, 2) := by decide +kernel
theorem dX11_halving_168 : decode cX11_halving 168 = .ok (.if_icmp .le 15, 3) := by decide +kernel
theorem dX11_halving_171 : decode cX11_halving 171 = .ok (.iload 8, 2) := by decide +kernel
theorem dX11_halving_173 : decode cX11_halving 173 = .ok (.istore 5, 2) := by decide +kernel
theorem dX11_halving_175 : decode cX11_halving 175 = .ok (.iload 9, 2) := by decide +kernel
theorem dX11_halving_177 : decode cX11_halving 177 = .ok (.istore 6, 2) := by decide +kernel
theorem dX11_halving_179 : decode cX11_halving 179 = .ok (.iload 10, 2) := by decide +kernel
theorem dX11_halving_181 : decode cX11_halving 181 = .ok (.istore 7, 2) := by decide +kernel
theorem dX11_halving_183 : decode cX11_halving 183 = .ok (.iinc 8 1, 3) := by decide +kernel
theorem dX11_halving_186 : decode cX11_halving 186 = .ok (.goto (-83), 3) := by decide +kernel
theorem dX11_halving_189 : decode cX11_halving 189 = .ok (.iload_n 3, 1) := by decide +kernel
theorem dX11_halving_190 : decode cX11_halving 190 = .ok (.iconst 1, 1) := by decide +kernel
theorem dX11_halving_191 : decode cX11_halving 191 = .ok (.if_icmp .ne 8, 3) := by decide +kernel
theorem dX11_halving_194 : decode cX11_halving 194 = .ok (.iload 5, 2) := by decide +kernel
theorem dX11_halving_196 : decode cX11_halving 196 = .ok (.goto 5, 3) := by decide +kernel
theorem dX11_halving_199 : decode cX11_halving 199 = .ok (.iload 6, 2) := by decide +kernel
theorem dX11_halving_201 : decode cX11_halving 201 = .ok (.ireturn, 1) := by decide +kernel
def P_X11_halving_103 (sh : gS) (Q : Option gV → gS → gM → Prop) (x1 x2 x3 x4 x5 x6 x7 x8 : Int) (M : gM) : Prop := gA (gr 2 46) yX11_halving cX11_halving 11 (some (.int)) Q (0, 0) 103 [(4, 0), (0, x1), (0, x2), (0, x3), (0, x4), (0, x5), (0, x6), (0, x7), (0, x8), (9, 0), (9, 0)] [] sh M
theorem w_X11_halving_103 {sh : gS} {Q : Option gV → gS → gM → Prop} {x1 x2 x3 x4 x5 x6 x7 x8 : Int} {M : gM} (hOK : gOK sh M) (h : (if x8 < (M 4 0) then
    (∃ v122 : Int, gC (gr 0 0) yX3_has cX3_has 3 (some (.boolean)) [(4, 470), (0, 0), (0, x8)] sh M (gPp sh M (0, v122)) ∧
      (if v122 = 0 then
        (P_X11_halving_103 sh Q x1 x2 x3 x4 x5 x6 x7 (gw32 (x8 + 1)) M)
      else
        (∃ v145 : Int, gC (gr 1 21) yX3_sizeInBoth cX3_sizeInBoth 4 (some (.int)) [(4, 470), (0, 0), (4, 14), (0, x8)] sh M (gPp sh M (0, v145)) ∧
          (if x7 < (if (gw32 (x4 - (gw32 (v145 + (1 : Int))))) < (gw32 (v145 + (1 : Int))) then (gw32 (x4 - (gw32 (v145 + (1 : Int))))) else (gw32 (v145 + (1 : Int)))) then
            (P_X11_halving_103 sh Q x1 x2 x3 x4 x8 (gw32 (v145 + (1 : Int))) (if (gw32 (x4 - (gw32 (v145 + (1 : Int))))) < (gw32 (v145 + (1 : Int))) then (gw32 (x4 - (gw32 (v145 + (1 : Int))))) else (gw32 (v145 + (1 : Int)))) (gw32 (x8 + 1)) M)
          else
            (P_X11_halving_103 sh Q x1 x2 x3 x4 x5 x6 x7 (gw32 (x8 + 1)) M)))))
  else
    (if x3 = 1 then
      (Q (some (0, x5)) sh M)
    else
      (Q (some (0, x6)) sh M)))) : P_X11_halving_103 sh Q x1 x2 x3 x4 x5 x6 x7 x8 M := by
  unfold P_X11_halving_103
  refine g_iload (q0 := 105) (j := 8) rfl dX11_halving_103 rfl ?_
  refine g_aload_n (q0 := 106) (j := 0) rfl dX11_halving_105 rfl ?_
  refine g_getp (q0 := 109) (b := 4) rfl ff_X11_27 dX11_halving_106 rfl hOK (by decide) (sh_0 hOK) rfl (by decide) ?_
  refine g_getf (q0 := 112) (t := 0) (fi := 0) rfl rfl ff_X11_135 dX11_halving_109 rfl (sh_4 hOK) ?_
  refine g_icmp_ge (q0 := 115) (tgt := 189) rfl dX11_halving_112 (by decide) (fun h112 => ?_) (fun h112 => ?_)
  · replace h := wI_neg (Int.not_lt.mpr h112) h
    refine g_iload_n (q0 := 190) (j := 3) rfl dX11_halving_189 rfl ?_
    refine g_iconst (q0 := 191) rfl dX11_halving_190 (k := ?_)
    refine g_icmp_ne (q0 := 194) (tgt := 199) rfl dX11_halving_191 (by decide) (fun h191 => ?_) (fun h191 => ?_)
    · replace h := wI_neg h191 h
      refine g_iload (q0 := 201) (j := 6) rfl dX11_halving_199 rfl ?_
      exact g_ireturn dX11_halving_201 rfl ⟨Nat.zero_le _, Nat.zero_le _⟩ h
    · replace h := wI_pos h191 h
      refine g_iload (q0 := 196) (j := 5) rfl dX11_halving_194 rfl ?_
      refine g_goto (tgt := 201) dX11_halving_196 (by decide) ?_
      exact g_ireturn dX11_halving_201 rfl ⟨Nat.zero_le _, Nat.zero_le _⟩ h
  · replace h := wI_pos h112 h
    refine g_aload_n (q0 := 116) (j := 0) rfl dX11_halving_115 rfl ?_
    refine g_getp (q0 := 119) (b := 470) rfl ff_X11_74 dX11_halving_116 rfl hOK (by decide) (sh_0 hOK) rfl (by decide) ?_
    refine g_iconst (q0 := 120) rfl dX11_halving_119 (k := ?_)
    refine g_iload (q0 := 122) (j := 8) rfl dX11_halving_120 rfl ?_
    obtain ⟨v122, e122, h⟩ := h
    refine g_callVp (as := [_, _]) (rest := []) mt_X3_has mi_X3_has se_X3_has ml_X11_365 dX11_halving_122 (q0 := 125) rfl rfl (sh_470 hOK) rfl rfl e122 rfl ⟨by decide, by decide⟩ (Nat.le_of_ble_eq_true rfl) ⟨Nat.zero_le _, Nat.zero_le _⟩ (fun _ => ?_)
    refine g_if_ne (q0 := 128) (tgt := 131) rfl dX11_halving_125 (by decide) (fun h125 => ?_) (fun h125 => ?_)
    · replace h := wI_neg h125 h
      refine g_aload_n (q0 := 132) (j := 0) rfl dX11_halving_131 rfl ?_
      refine g_getp (q0 := 135) (b := 470) rfl ff_X11_74 dX11_halving_132 rfl hOK (by decide) (sh_0 hOK) rfl (by decide) ?_
      refine g_iconst (q0 := 136) rfl dX11_halving_135 (k := ?_)
      refine g_aload_n (q0 := 137) (j := 0) rfl dX11_halving_136 rfl ?_
      refine g_getp (q0 := 140) (b := 4) rfl ff_X11_27 dX11_halving_137 rfl hOK (by decide) (sh_0 hOK) rfl (by decide) ?_
      refine g_getp (q0 := 143) (b := 14) rfl ff_X11_304 dX11_halving_140 rfl hOK (by decide) (sh_4 hOK) rfl (by decide) ?_
      refine g_iload (q0 := 145) (j := 8) rfl dX11_halving_143 rfl ?_
      obtain ⟨v145, e145, h⟩ := h
      refine g_callVp (as := [_, _, _]) (rest := []) mt_X3_sizeInBoth mi_X3_sizeInBoth se_X3_sizeInBoth ml_X11_506 dX11_halving_145 (q0 := 148) rfl rfl (sh_470 hOK) rfl rfl e145 rfl ⟨by decide, by decide⟩ (Nat.le_of_ble_eq_true rfl) ⟨Nat.zero_le _, Nat.zero_le _⟩ (fun _ => ?_)
      refine g_iconst (q0 := 149) rfl dX11_halving_148 (k := ?_)
      refine g_iaddw (q0 := 150) rfl dX11_halving_149 ?_
      refine g_istore (q0 := 152) (j := 9) (lv2 := [_, _, _, _, _, _, _, _, _, _, _]) rfl dX11_halving_150 (by decide) rfl rfl ?_
      refine g_iload (q0 := 154) (j := 9) rfl dX11_halving_152 rfl ?_
      refine g_iload (q0 := 156) (j := 4) rfl dX11_halving_154 rfl ?_
      refine g_iload (q0 := 158) (j := 9) rfl dX11_halving_156 rfl ?_
      refine g_isubw (q0 := 159) rfl dX11_halving_158 ?_
      refine g_mmin (q0 := 162) rfl ml_X11_562 ms_J9_min_7cf53 inic_Math mt_J9_min_7cf53.1 dX11_halving_159 (by decide) (Nat.le_of_ble_eq_true rfl) ⟨Nat.zero_le _, Nat.zero_le _⟩ ?_
      refine g_istore (q0 := 164) (j := 10) (lv2 := [_, _, _, _, _, _, _, _, _, _, _]) rfl dX11_halving_162 (by decide) rfl rfl ?_
      refine g_iload (q0 := 166) (j := 10) rfl dX11_halving_164 rfl ?_
      refine g_iload (q0 := 168) (j := 7) rfl dX11_halving_166 rfl ?_
      refine g_icmp_le (q0 := 171) (tgt := 183) rfl dX11_halving_168 (by decide) (fun h168 => ?_) (fun h168 => ?_)
      · replace h := wI_neg (Int.not_lt.mpr h168) h
        refine g_iincw (q0 := 186) (lv2 := [_, _, _, _, _, _, _, _, _, _, _]) rfl dX11_halving_183 rfl (by decide) rfl rfl ?_
        refine g_goto (tgt := 103) dX11_halving_186 (by decide) ?_
        refine gA_jk (lv1 := [_, _, _, _, _, _, _, _, _, (9, 0), (9, 0)]) ⟨.inl rfl, .inl rfl, .inl rfl, .inl rfl, .inl rfl, .inl rfl, .inl rfl, .inl rfl, .inl rfl, .inr rfl, .inr rfl, trivial⟩ ?_
        exact h
      · replace h := wI_pos h168 h
        refine g_iload (q0 := 173) (j := 8) rfl dX11_halving_171 rfl ?_
        refine g_istore (q0 := 175) (j := 5) (lv2 := [_, _, _, _, _, _, _, _, _, _, _]) rfl dX11_halving_173 (by decide) rfl rfl ?_
        refine g_iload (q0 := 177) (j := 9) rfl dX11_halving_175 rfl ?_
        refine g_istore (q0 := 179) (j := 6) (lv2 := [_, _, _, _, _, _, _, _, _, _, _]) rfl dX11_halving_177 (by decide) rfl rfl ?_
        refine g_iload (q0 := 181) (j := 10) rfl dX11_halving_179 rfl ?_
        refine g_istore (q0 := 183) (j := 7) (lv2 := [_, _, _, _, _, _, _, _, _, _, _]) rfl dX11_halving_181 (by decide) rfl rfl ?_
        refine g_iincw (q0 := 186) (lv2 := [_, _, _, _, _, _, _, _, _, _, _]) rfl dX11_halving_183 rfl (by decide) rfl rfl ?_
        refine g_goto (tgt := 103) dX11_halving_186 (by decide) ?_
        refine gA_jk (lv1 := [_, _, _, _, _, _, _, _, _, (9, 0), (9, 0)]) ⟨.inl rfl, .inl rfl, .inl rfl, .inl rfl, .inl rfl, .inl rfl, .inl rfl, .inl rfl, .inl rfl, .inr rfl, .inr rfl, trivial⟩ ?_
        exact h
    · replace h := wI_pos h125 h
      refine g_goto (tgt := 183) dX11_halving_128 (by decide) ?_
      refine g_iincw (q0 := 186) (lv2 := [_, _, _, _, _, _, _, _, _, _, _]) rfl dX11_halving_183 rfl (by decide) rfl rfl ?_
      refine g_goto (tgt := 103) dX11_halving_186 (by decide) ?_
      exact h
theorem w_X11_halving {sh : gS} {Q : Option gV → gS → gM → Prop} {a1 a2 a3 : Int} {M : gM} (hOK : gOK sh M) (h : (∃ v5 : Int, gC (gr 0 0) yX1_has cX1_has 2 (some (.boolean)) [(4, 4), (0, a1)] sh M (gPp sh M (0, v5)) ∧
    (if v5 = 0 then
      (Q (some (0, -1)) sh M)
    else
      (∃ v16 : Int, gC (gr 0 0) yX1_has cX1_has 2 (some (.boolean)) [(4, 4), (0, a2)] sh M (gPp sh M (0, v16)) ∧
        (if v16 = 0 then
          (Q (some (0, -1)) sh M)
        else
          (if a3 < 0 then
            (Q (some (0, -1)) sh M)
          else
            (if (2 : Int) < a3 then
              (Q (some (0, -1)) sh M)
            else
              (∃ P43 : Option gV → gM → Prop, gC (gr 1 23) yX1_markWithAncestors cX1_markWithAncestors 4 none [(4, 4), (0, a2), (4, 470), (0, 0)] sh M (gPm sh P43) ∧ ∀ (r43 : Option gV) (M43 : gM), P43 r43 M43 → r43 = none ∧ gOK sh M43 ∧
                (∃ P56 : Option gV → gM → Prop, gC (gr 1 23) yX1_markWithAncestors cX1_markWithAncestors 4 none [(4, 4), (0, a1), (4, 470), (0, 1)] sh M43 (gPm sh P56) ∧ ∀ (r56 : Option gV) (M56 : gM), P56 r56 M56 → r56 = none ∧ gOK sh M56 ∧
                  (∃ P69 : Option gV → gM → Prop, gC (gr 0 0) yX3_cutAll cX3_cutAll 4 none [(4, 470), (0, 0), (4, 470), (0, 1)] sh M56 (gPm sh P69) ∧ ∀ (r69 : Option gV) (M69 : gM), P69 r69 M69 → r69 = none ∧ gOK sh M69 ∧
                    (∃ v77 : Int, gC (gr 1 21) yX3_size cX3_size 2 (some (.int)) [(4, 470), (0, 0)] sh M69 (gPp sh M69 (0, v77)) ∧
                      (if a3 = 0 then
                        (Q (some (0, v77)) sh M69)
                      else
                        (P_X11_halving_103 sh Q a1 a2 a3 v77 (-2) (-2) (-1) 0 M69))))))))))))) : gC (gr 2 46) yX11_halving cX11_halving 11 (some (.int)) [(4, 0), (0, a1), (0, a2), (0, a3)] sh M Q := by
  refine gC_ofA (lv := [_, _, _, _, _, _, _, _, _, _, _]) (by decide +kernel) (Nat.le_of_ble_eq_true rfl) rfl (fun hMw hav => ?_)
  refine g_aload_n (q0 := 1) (j := 0) rfl dX11_halving_0 rfl ?_
  refine g_getp (q0 := 4) (b := 4) rfl ff_X11_27 dX11_halving_1 rfl hOK (by decide) (sh_0 hOK) rfl (by decide) ?_
  refine g_iload_n (q0 := 5) (j := 1) rfl dX11_halving_4 rfl ?_
  obtain ⟨v5, e5, h⟩ := h
  refine g_callVp (as := [_]) (rest := []) mt_X1_has mi_X1_has se_X1_has ml_X11_152 dX11_halving_5 (q0 := 8) rfl rfl (sh_4 hOK) rfl rfl e5 rfl ⟨by decide, by decide⟩ (Nat.le_of_ble_eq_true rfl) ⟨Nat.zero_le _, Nat.zero_le _⟩ (fun _ => ?_)
  refine g_if_eq (q0 := 11) (tgt := 31) rfl dX11_halving_8 (by decide) (fun h8 => ?_) (fun h8 => ?_)
  · replace h := wI_pos h8 h
    refine g_iconst (q0 := 32) rfl dX11_halving_31 (k := ?_)
    exact g_ireturn dX11_halving_32 rfl ⟨Nat.zero_le _, Nat.zero_le _⟩ h
  · replace h := wI_neg h8 h
    refine g_aload_n (q0 := 12) (j := 0) rfl dX11_halving_11 rfl ?_
    refine g_getp (q0 := 15) (b := 4) rfl ff_X11_27 dX11_halving_12 rfl hOK (by decide) (sh_0 hOK) rfl (by decide) ?_
    refine g_iload_n (q0 := 16) (j := 2) rfl dX11_halving_15 rfl ?_
    obtain ⟨v16, e16, h⟩ := h
    refine g_callVp (as := [_]) (rest := []) mt_X1_has mi_X1_has se_X1_has ml_X11_152 dX11_halving_16 (q0 := 19) rfl rfl (sh_4 hOK) rfl rfl e16 rfl ⟨by decide, by decide⟩ (Nat.le_of_ble_eq_true rfl) ⟨Nat.zero_le _, Nat.zero_le _⟩ (fun _ => ?_)
    refine g_if_eq (q0 := 22) (tgt := 31) rfl dX11_halving_19 (by decide) (fun h19 => ?_) (fun h19 => ?_)
    · replace h := wI_pos h19 h
      refine g_iconst (q0 := 32) rfl dX11_halving_31 (k := ?_)
      exact g_ireturn dX11_halving_32 rfl ⟨Nat.zero_le _, Nat.zero_le _⟩ h
    · replace h := wI_neg h19 h
      refine g_iload_n (q0 := 23) (j := 3) rfl dX11_halving_22 rfl ?_
      refine g_if_lt (q0 := 26) (tgt := 31) rfl dX11_halving_23 (by decide) (fun h23 => ?_) (fun h23 => ?_)
      · replace h := wI_pos h23 h
        refine g_iconst (q0 := 32) rfl dX11_halving_31 (k := ?_)
        exact g_ireturn dX11_halving_32 rfl ⟨Nat.zero_le _, Nat.zero_le _⟩ h
      · replace h := wI_neg (Int.not_lt.mpr h23) h
        refine g_iload_n (q0 := 27) (j := 3) rfl dX11_halving_26 rfl ?_
        refine g_iconst (q0 := 28) rfl dX11_halving_27 (k := ?_)
        refine g_icmp_le (q0 := 31) (tgt := 33) rfl dX11_halving_28 (by decide) (fun h28 => ?_) (fun h28 => ?_)
        · replace h := wI_neg (Int.not_lt.mpr h28) h
          refine g_aload_n (q0 := 34) (j := 0) rfl dX11_halving_33 rfl ?_
          refine g_getp (q0 := 37) (b := 4) rfl ff_X11_27 dX11_halving_34 rfl hOK (by decide) (sh_0 hOK) rfl (by decide) ?_
          refine g_iload_n (q0 := 38) (j := 2) rfl dX11_halving_37 rfl ?_
          refine g_aload_n (q0 := 39) (j := 0) rfl dX11_halving_38 rfl ?_
          refine g_getp (q0 := 42) (b := 470) rfl ff_X11_74 dX11_halving_39 rfl hOK (by decide) (sh_0 hOK) rfl (by decide) ?_
          refine g_iconst (q0 := 43) rfl dX11_halving_42 (k := ?_)
          obtain ⟨P43, e43, h⟩ := h
          refine g_callVm (as := [_, _, _]) (rest := []) mt_X1_markWithAncestors mi_X1_markWithAncestors se_X1_markWithAncestors ml_X11_549 dX11_halving_43 (q0 := 46) rfl rfl (sh_4 hOK) rfl rfl e43 rfl ⟨by decide, by decide⟩ (Nat.le_of_ble_eq_true rfl) ⟨Nat.zero_le _, Nat.zero_le _⟩ (fun r43 M43 hP43 hw43 hMw43 => ?_)
          obtain ⟨hr43, hOK1, h⟩ := h r43 M43 hP43
          subst hr43
          refine g_aload_n (q0 := 47) (j := 0) rfl dX11_halving_46 rfl ?_
          refine g_getp (q0 := 50) (b := 4) rfl ff_X11_27 dX11_halving_47 rfl hOK1 (by decide) (sh_0 hOK1) rfl (by decide) ?_
          refine g_iload_n (q0 := 51) (j := 1) rfl dX11_halving_50 rfl ?_
          refine g_aload_n (q0 := 52) (j := 0) rfl dX11_halving_51 rfl ?_
          refine g_getp (q0 := 55) (b := 470) rfl ff_X11_74 dX11_halving_52 rfl hOK1 (by decide) (sh_0 hOK1) rfl (by decide) ?_
          refine g_iconst (q0 := 56) rfl dX11_halving_55 (k := ?_)
          obtain ⟨P56, e56, h⟩ := h
          refine g_callVm (as := [_, _, _]) (rest := []) mt_X1_markWithAncestors mi_X1_markWithAncestors se_X1_markWithAncestors ml_X11_549 dX11_halving_56 (q0 := 59) rfl rfl (sh_4 hOK1) rfl rfl e56 rfl ⟨by decide, by decide⟩ (Nat.le_of_ble_eq_true rfl) ⟨Nat.zero_le _, Nat.zero_le _⟩ (fun r56 M56 hP56 hw56 hMw56 => ?_)
          obtain ⟨hr56, hOK2, h⟩ := h r56 M56 hP56
          subst hr56
          refine g_aload_n (q0 := 60) (j := 0) rfl dX11_halving_59 rfl ?_
          refine g_getp (q0 := 63) (b := 470) rfl ff_X11_74 dX11_halving_60 rfl hOK2 (by decide) (sh_0 hOK2) rfl (by decide) ?_
          refine g_iconst (q0 := 64) rfl dX11_halving_63 (k := ?_)
          refine g_aload_n (q0 := 65) (j := 0) rfl dX11_halving_64 rfl ?_
          refine g_getp (q0 := 68) (b := 470) rfl ff_X11_74 dX11_halving_65 rfl hOK2 (by decide) (sh_0 hOK2) rfl (by decide) ?_
          refine g_iconst (q0 := 69) rfl dX11_halving_68 (k := ?_)
          obtain ⟨P69, e69, h⟩ := h
          refine g_callVm (as := [_, _, _]) (rest := []) mt_X3_cutAll mi_X3_cutAll se_X3_cutAll ml_X11_559 dX11_halving_69 (q0 := 72) rfl rfl (sh_470 hOK2) rfl rfl e69 rfl ⟨by decide, by decide⟩ (Nat.le_of_ble_eq_true rfl) ⟨Nat.zero_le _, Nat.zero_le _⟩ (fun r69 M69 hP69 hw69 hMw69 => ?_)
          obtain ⟨hr69, hOK3, h⟩ := h r69 M69 hP69
          subst hr69
          refine g_aload_n (q0 := 73) (j := 0) rfl dX11_halving_72 rfl ?_
          refine g_getp (q0 := 76) (b := 470) rfl ff_X11_74 dX11_halving_73 rfl hOK3 (by decide) (sh_0 hOK3) rfl (by decide) ?_
          refine g_iconst (q0 := 77) rfl dX11_halving_76 (k := ?_)
          obtain ⟨v77, e77, h⟩ := h
          refine g_callVp (as := [_]) (rest := []) mt_X3_size mi_X3_size se_X3_size ml_X11_307 dX11_halving_77 (q0 := 80) rfl rfl (sh_470 hOK3) rfl rfl e77 rfl ⟨by decide, by decide⟩ (Nat.le_of_ble_eq_true rfl) ⟨Nat.zero_le _, Nat.zero_le _⟩ (fun _ => ?_)
          refine g_istore (q0 := 82) (j := 4) (lv2 := [_, _, _, _, _, _, _, _, _, _, _]) rfl dX11_halving_80 (by decide) rfl rfl ?_
          refine g_iload_n (q0 := 83) (j := 3) rfl dX11_halving_82 rfl ?_
          refine g_if_ne (q0 := 86) (tgt := 89) rfl dX11_halving_83 (by decide) (fun h83 => ?_) (fun h83 => ?_)
          · replace h := wI_neg h83 h
            refine g_bipush (q0 := 91) rfl dX11_halving_89 (k := ?_)
            refine g_istore (q0 := 93) (j := 5) (lv2 := [_, _, _, _, _, _, _, _, _, _, _]) rfl dX11_halving_91 (by decide) rfl rfl ?_
            refine g_bipush (q0 := 95) rfl dX11_halving_93 (k := ?_)
            refine g_istore (q0 := 97) (j := 6) (lv2 := [_, _, _, _, _, _, _, _, _, _, _]) rfl dX11_halving_95 (by decide) rfl rfl ?_
            refine g_iconst (q0 := 98) rfl dX11_halving_97 (k := ?_)
            refine g_istore (q0 := 100) (j := 7) (lv2 := [_, _, _, _, _, _, _, _, _, _, _]) rfl dX11_halving_98 (by decide) rfl rfl ?_
            refine g_iconst (q0 := 101) rfl dX11_halving_100 (k := ?_)
            refine g_istore (q0 := 103) (j := 8) (lv2 := [_, _, _, _, _, _, _, _, _, _, _]) rfl dX11_halving_101 (by decide) rfl rfl ?_
            exact h
          · replace h := wI_pos h83 h
            refine g_iload (q0 := 88) (j := 4) rfl dX11_halving_86 rfl ?_
            exact g_ireturn dX11_halving_88 rfl ⟨Nat.zero_le _, Nat.zero_le _⟩ h
        · replace h := wI_pos h28 h
          refine g_iconst (q0 := 32) rfl dX11_halving_31 (k := ?_)
          exact g_ireturn dX11_halving_32 rfl ⟨Nat.zero_le _, Nat.zero_le _⟩ h
-- ==== X11_line
theorem dX11_line_0 : decode cX11_line 0 = .ok (.aload_n 0, 1) := by decide +kernel
theorem dX11_line_1 : decode cX11_line 1 = .ok (.getfield 27, 3) := by decide +kernel
theorem dX11_line_4 : decode cX11_line 4 = .ok (.iload_n 1, 1) := by decide +kernel
theorem dX11_line_5 : decode cX11_line 5 = .ok (.invokevirtual 152, 3) := by decide +kernel
theorem dX11_line_8 : decode cX11_line 8 = .ok (.ifCond .eq 13, 3) := by decide +kernel
theorem dX11_line_11 : decode cX11_line 11 = .ok (.iload_n 2, 1) := by decide +kernel
theorem dX11_line_12 : decode cX11_line 12 = .ok (.ifCond .lt 9, 3) := by decide +kernel
theorem dX11_line_15 : decode cX11_line 15 = .ok (.iload_n 2, 1) := by decide +kernel
theorem dX11_line_16 : decode cX11_line 16 = .ok (.bipush 120, 2) := by decide +kernel
theorem dX11_line_18 : decode cX11_line 18 = .ok (.if_icmp .lt 5, 3) := by decide +kernel
theorem dX11_line_21 : decode cX11_line 21 = .ok (.iconst (-1), 1) := by decide +kernel
theorem dX11_line_22 : decode cX11_line 22 = .ok (.ireturn, 1) := by decide +kernel
theorem dX11_line_23 : decode cX11_line 23 = .ok (.iload_n 1, 1) := by decide +kernel
theorem dX11_line_24 : decode cX11_line 24 = .ok (.istore_n 3, 1) := by decide +kernel
theorem dX11_line_25 : decode cX11_line 25 = .ok (.iconst 0, 1) := by decide +kernel
theorem dX11_line_26 : decode cX11_line 26 = .ok (.istore 4, 2) := by decide +kernel
theorem dX11_line_28 : decode cX11_line 28 = .ok (.iload 4, 2) := by decide +kernel
theorem dX11_line_30 : decode cX11_line 30 = .ok (.iload_n 2, 1) := by decide +kernel
theorem dX11_line_31 : decode cX11_line 31 = .ok (.if_icmp .ge 34, 3) := by decide +kernel
theorem dX11_line_34 : decode cX11_line 34 = .ok (.aload_n 0, 1) := by decide +kernel
theorem dX11_line_35 : decode cX11_line 35 = .ok (.getfield 27, 3) := by decide +kernel
theorem dX11_line_38 : decode cX11_line 38 = .ok (.getfield 295, 3) := by decide +kernel
theorem dX11_line_41 : decode cX11_line 41 = .ok (.iload_n 3, 1) := by decide +kernel
theorem dX11_line_42 : decode cX11_line 42 = .ok (.iaload, 1) := by decide +kernel
theorem dX11_line_43 : decode cX11_line 43 = .ok (.ifCond .ne 6, 3) := by decide +kernel
theorem dX11_line_46 : decode cX11_line 46 = .ok (.bipush (-4), 2) := by decide +kernel
theorem dX11_line_48 : decode cX11_line 48 = .ok (.ireturn, 1) := by decide +kernel
theorem dX11_line_49 : decode cX11_line 49 = .ok (.aload_n 0, 1) := by decide +kernel
theorem dX11_line_50 : decode cX11_line 50 = .ok (.getfield 27, 3) := by decide +kernel
theorem dX11_line_53 : decode cX11_line 53 = .ok (.iload_n 3, 1) := by decide +kernel
theorem dX11_line_54 : decode cX11_line 54 = .ok (.iconst 0, 1) := by decide +kernel
theorem dX11_line_55 : decode cX11_line 55 = .ok (.invokevirtual 314, 3) := by decide +kernel
theorem dX11_line_58 : decode cX11_line 58 = .ok (.istore_n 3, 1) := by decide +kernel
theorem dX11_line_59 : decode cX11_line 59 = .ok (.iinc 4 1, 3) := by decide +kernel
theorem dX11_line_62 : decode cX11_line 62 = .ok (.goto (-34), 3) := by decide +kernel
theorem dX11_line_65 : decode cX11_line 65 = .ok (.iload_n 3, 1) := by decide +kernel
theorem dX11_line_66 : decode cX11_line 66 = .ok (.ireturn, 1) := by decide +kernel
def P_X11_line_28 (sh : gS) (Q : Option gV → gS → gM → Prop) (x1 x2 x3 x4 : Int) (M : gM) : Prop := gA (gr 1 22) yX11_line cX11_line 5 (some (.int)) Q (0, 0) 28 [(4, 0), (0, x1), (0, x2), (0, x3), (0, x4)] [] sh M
theorem w_X11_line_28 {sh : gS} {Q : Option gV → gS → gM → Prop} {x1 x2 x3 x4 : Int} {M : gM} (hOK : gOK sh M) (h : (if x4 < x2 then
    ((0 ≤ x3 ∧ x3 < 120) ∧
      (if (M 5 x3) = 0 then
        (Q (some (0, -4)) sh M)
      else
        (∃ v55 : Int, gC (gr 0 0) yX1_parent cX1_parent 3 (some (.int)) [(4, 4), (0, x3), (0, 0)] sh M (gPp sh M (0, v55)) ∧
          (P_X11_line_28 sh Q x1 x2 v55 (gw32 (x4 + 1)) M))))
  else
    (Q (some (0, x3)) sh M))) : P_X11_line_28 sh Q x1 x2 x3 x4 M := by
  unfold P_X11_line_28
  refine g_iload (q0 := 30) (j := 4) rfl dX11_line_28 rfl ?_
  refine g_iload_n (q0 := 31) (j := 2) rfl dX11_line_30 rfl ?_
  refine g_icmp_ge (q0 := 34) (tgt := 65) rfl dX11_line_31 (by decide) (fun h31 => ?_) (fun h31 => ?_)
  · replace h := wI_neg (Int.not_lt.mpr h31) h
    refine g_iload_n (q0 := 66) (j := 3) rfl dX11_line_65 rfl ?_
    exact g_ireturn dX11_line_66 rfl ⟨Nat.zero_le _, Nat.zero_le _⟩ h
  · replace h := wI_pos h31 h
    refine g_aload_n (q0 := 35) (j := 0) rfl dX11_line_34 rfl ?_
    refine g_getp (q0 := 38) (b := 4) rfl ff_X11_27 dX11_line_35 rfl hOK (by decide) (sh_0 hOK) rfl (by decide) ?_
    refine g_getp (q0 := 41) (b := 5) rfl ff_X11_295 dX11_line_38 rfl hOK (by decide) (sh_4 hOK) rfl (by decide) ?_
    refine g_iload_n (q0 := 42) (j := 3) rfl dX11_line_41 rfl ?_
    obtain ⟨g1, h⟩ := h
    refine g_iald (q0 := 43) rfl dX11_line_42 (sh_5 hOK) g1.1 g1.2 ?_
    refine g_if_ne (q0 := 46) (tgt := 49) rfl dX11_line_43 (by decide) (fun h43 => ?_) (fun h43 => ?_)
    · replace h := wI_neg h43 h
      refine g_aload_n (q0 := 50) (j := 0) rfl dX11_line_49 rfl ?_
      refine g_getp (q0 := 53) (b := 4) rfl ff_X11_27 dX11_line_50 rfl hOK (by decide) (sh_0 hOK) rfl (by decide) ?_
      refine g_iload_n (q0 := 54) (j := 3) rfl dX11_line_53 rfl ?_
      refine g_iconst (q0 := 55) rfl dX11_line_54 (k := ?_)
      obtain ⟨v55, e55, h⟩ := h
      refine g_callVp (as := [_, _]) (rest := []) mt_X1_parent mi_X1_parent se_X1_parent ml_X11_314 dX11_line_55 (q0 := 58) rfl rfl (sh_4 hOK) rfl rfl e55 rfl ⟨by decide, by decide⟩ (Nat.le_of_ble_eq_true rfl) ⟨Nat.zero_le _, Nat.zero_le _⟩ (fun _ => ?_)
      refine g_istore_n (q0 := 59) (j := 3) (lv2 := [_, _, _, _, _]) rfl dX11_line_58 (by decide) rfl rfl ?_
      refine g_iincw (q0 := 62) (lv2 := [_, _, _, _, _]) rfl dX11_line_59 rfl (by decide) rfl rfl ?_
      refine g_goto (tgt := 28) dX11_line_62 (by decide) ?_
      exact h
    · replace h := wI_pos h43 h
      refine g_bipush (q0 := 48) rfl dX11_line_46 (k := ?_)
      exact g_ireturn dX11_line_48 rfl ⟨Nat.zero_le _, Nat.zero_le _⟩ h
theorem w_X11_line {sh : gS} {Q : Option gV → gS → gM → Prop} {a1 a2 : Int} {M : gM} (hOK : gOK sh M) (h : (∃ v5 : Int, gC (gr 0 0) yX1_has cX1_has 2 (some (.boolean)) [(4, 4), (0, a1)] sh M (gPp sh M (0, v5)) ∧
    (if v5 = 0 then
      (Q (some (0, -1)) sh M)
    else
      (if a2 < 0 then
        (Q (some (0, -1)) sh M)
      else
        (if a2 < 120 then
          (P_X11_line_28 sh Q a1 a2 a1 0 M)
        else
          (Q (some (0, -1)) sh M)))))) : gC (gr 1 22) yX11_line cX11_line 5 (some (.int)) [(4, 0), (0, a1), (0, a2)] sh M Q := by
  refine gC_ofA (lv := [_, _, _, _, _]) (by decide +kernel) (Nat.le_of_ble_eq_true rfl) rfl (fun hMw hav => ?_)
  refine g_aload_n (q0 := 1) (j := 0) rfl dX11_line_0 rfl ?_
  refine g_getp (q0 := 4) (b := 4) rfl ff_X11_27 dX11_line_1 rfl hOK (by decide) (sh_0 hOK) rfl (by decide) ?_
  refine g_iload_n (q0 := 5) (j := 1) rfl dX11_line_4 rfl ?_
  obtain ⟨v5, e5, h⟩ := h
  refine g_callVp (as := [_]) (rest := []) mt_X1_has mi_X1_has se_X1_has ml_X11_152 dX11_line_5 (q0 := 8) rfl rfl (sh_4 hOK) rfl rfl e5 rfl ⟨by decide, by decide⟩ (Nat.le_of_ble_eq_true rfl) ⟨Nat.zero_le _, Nat.zero_le _⟩ (fun _ => ?_)
  refine g_if_eq (q0 := 11) (tgt := 21) rfl dX11_line_8 (by decide) (fun h8 => ?_) (fun h8 => ?_)
  · replace h := wI_pos h8 h
    refine g_iconst (q0 := 22) rfl dX11_line_21 (k := ?_)
    exact g_ireturn dX11_line_22 rfl ⟨Nat.zero_le _, Nat.zero_le _⟩ h
  · replace h := wI_neg h8 h
    refine g_iload_n (q0 := 12) (j := 2) rfl dX11_line_11 rfl ?_
    refine g_if_lt (q0 := 15) (tgt := 21) rfl dX11_line_12 (by decide) (fun h12 => ?_) (fun h12 => ?_)
    · replace h := wI_pos h12 h
      refine g_iconst (q0 := 22) rfl dX11_line_21 (k := ?_)
      exact g_ireturn dX11_line_22 rfl ⟨Nat.zero_le _, Nat.zero_le _⟩ h
    · replace h := wI_neg (Int.not_lt.mpr h12) h
      refine g_iload_n (q0 := 16) (j := 2) rfl dX11_line_15 rfl ?_
      refine g_bipush (q0 := 18) rfl dX11_line_16 (k := ?_)
      refine g_icmp_lt (q0 := 21) (tgt := 23) rfl dX11_line_18 (by decide) (fun h18 => ?_) (fun h18 => ?_)
      · replace h := wI_pos h18 h
        refine g_iload_n (q0 := 24) (j := 1) rfl dX11_line_23 rfl ?_
        refine g_istore_n (q0 := 25) (j := 3) (lv2 := [_, _, _, _, _]) rfl dX11_line_24 (by decide) rfl rfl ?_
        refine g_iconst (q0 := 26) rfl dX11_line_25 (k := ?_)
        refine g_istore (q0 := 28) (j := 4) (lv2 := [_, _, _, _, _]) rfl dX11_line_26 (by decide) rfl rfl ?_
        exact h
      · replace h := wI_neg (Int.not_lt.mpr h18) h
        refine g_iconst (q0 := 22) rfl dX11_line_21 (k := ?_)
        exact g_ireturn dX11_line_22 rfl ⟨Nat.zero_le _, Nat.zero_le _⟩ h
-- ==== X11_diff
theorem dX11_diff_0 : decode cX11_diff 0 = .ok (.aload_n 0, 1) := by decide +kernel
theorem dX11_diff_1 : decode cX11_diff 1 = .ok (.getfield 27, 3) := by decide +kernel
theorem dX11_diff_4 : decode cX11_diff 4 = .ok (.iload_n 1, 1) := by decide +kernel
theorem dX11_diff_5 : decode cX11_diff 5 = .ok (.invokevirtual 152, 3) := by decide +kernel
theorem dX11_diff_8 : decode cX11_diff 8 = .ok (.ifCond .eq 23, 3) := by decide +kernel
theorem dX11_diff_11 : decode cX11_diff 11 = .ok (.aload_n 0, 1) := by decide +kernel
theorem dX11_diff_12 : decode cX11_diff 12 = .ok (.getfield 27, 3) := by decide +kernel
theorem dX11_diff_15 : decode cX11_diff 15 = .ok (.iload_n 2, 1) := by decide +kernel
theorem dX11_diff_16 : decode cX11_diff 16 = .ok (.invokevirtual 152, 3) := by decide +kernel
theorem dX11_diff_19 : decode cX11_diff 19 = .ok (.ifCond .eq 12, 3) := by decide +kernel
theorem dX11_diff_22 : decode cX11_diff 22 = .ok (.iload_n 3, 1) := by decide +kernel
theorem dX11_diff_23 : decode cX11_diff 23 = .ok (.ifCond .lt 8, 3) := by decide +kernel
theorem dX11_diff_26 : decode cX11_diff 26 = .ok (.iload_n 3, 1) := by decide +kernel
theorem dX11_diff_27 : decode cX11_diff 27 = .ok (.iconst 3, 1) := by decide +kernel
theorem dX11_diff_28 : decode cX11_diff 28 = .ok (.if_icmp .le 5, 3) := by decide +kernel
theorem dX11_diff_31 : decode cX11_diff 31 = .ok (.iconst (-1), 1) := by decide +kernel
theorem dX11_diff_32 : decode cX11_diff 32 = .ok (.ireturn, 1) := by decide +kernel
theorem dX11_diff_33 : decode cX11_diff 33 = .ok (.aload_n 0, 1) := by decide +kernel
theorem dX11_diff_34 : decode cX11_diff 34 = .ok (.getfield 62, 3) := by decide +kernel
theorem dX11_diff_37 : decode cX11_diff 37 = .ok (.aload_n 0, 1) := by decide +kernel
theorem dX11_diff_38 : decode cX11_diff 38 = .ok (.getfield 27, 3) := by decide +kernel
theorem dX11_diff_41 : decode cX11_diff 41 = .ok (.iload_n 1, 1) := by decide +kernel
theorem dX11_diff_42 : decode cX11_diff 42 = .ok (.invokevirtual 155, 3) := by decide +kernel
theorem dX11_diff_45 : decode cX11_diff 45 = .ok (.aload_n 0, 1) := by decide +kernel
theorem dX11_diff_46 : decode cX11_diff 46 = .ok (.getfield 27, 3) := by decide +kernel
theorem dX11_diff_49 : decode cX11_diff 49 = .ok (.iload_n 2, 1) := by decide +kernel
theorem dX11_diff_50 : decode cX11_diff 50 = .ok (.invokevirtual 155, 3) := by decide +kernel
theorem dX11_diff_53 : decode cX11_diff 53 = .ok (.invokevirtual 274, 3) := by decide +kernel
theorem dX11_diff_56 : decode cX11_diff 56 = .ok (.iload_n 3, 1) := by decide +kernel
theorem dX11_diff_57 : decode cX11_diff 57 = .ok (.iconst 3, 1) := by decide +kernel
theorem dX11_diff_58 : decode cX11_diff 58 = .ok (.if_icmp .ne 18, 3) := by decide +kernel
theorem dX11_diff_61 : decode cX11_diff 61 = .ok (.aload_n 0, 1) := by decide +kernel
theorem dX11_diff_62 : decode cX11_diff 62 = .ok (.getfield 62, 3) := by decide +kernel
theorem dX11_diff_65 : decode cX11_diff 65 = .ok (.invokevirtual 565, 3) := by decide +kernel
theorem dX11_diff_68 : decode cX11_diff 68 = .ok (.aload_n 0, 1) := by decide +kernel
theorem dX11_diff_69 : decode cX11_diff 69 = .ok (.getfield 62, 3) := by decide +kernel
theorem dX11_diff_72 : decode cX11_diff 72 = .ok (.getfield 568, 3) := by decide +kernel
theorem dX11_diff_75 : decode cX11_diff 75 = .ok (.ireturn, 1) := by decide +kernel
theorem dX11_diff_76 : decode cX11_diff 76 = .ok (.aload_n 0, 1) := by decide +kernel
theorem dX11_diff_77 : decode cX11_diff 77 = .ok (.getfield 62, 3) := by decide +kernel
theorem dX11_diff_80 : decode cX11_diff 80 = .ok (.iload_n 3, 1) := by decide +kernel
theorem dX11_diff_81 : decode cX11_diff 81 = .ok (.invokevirtual 571, 3) := by decide +kernel
theorem dX11_diff_84 : decode cX11_diff 84 = .ok (.ireturn, 1) := by decide +kernel
theorem w_X11_diff {sh : gS} {Q : Option gV → gS → gM → Prop} {a1 a2 a3 : Int} {M : gM} (hOK : gOK sh M) (h : (∃ v5 : Int, gC (gr 0 0) yX1_has cX1_has 2 (some (.boolean)) [(4, 4), (0, a1)] sh M (gPp sh M (0, v5)) ∧
    (if v5 = 0 then
      (Q (some (0, -1)) sh M)
    else
      (∃ v16 : Int, gC (gr 0 0) yX1_has cX1_has 2 (some (.boolean)) [(4, 4), (0, a2)] sh M (gPp sh M (0, v16)) ∧
        (if v16 = 0 then
          (Q (some (0, -1)) sh M)
        else
          (if a3 < 0 then
            (Q (some (0, -1)) sh M)
          else
            (if (3 : Int) < a3 then
              (Q (some (0, -1)) sh M)
            else
              (∃ v42 : Int, gC (gr 0 0) yX1_tree cX1_tree 2 (some (.object "CarriedHistory$Tree")) [(4, 4), (0, a1)] sh M (gPp sh M (4, v42)) ∧
                (∃ v50 : Int, gC (gr 0 0) yX1_tree cX1_tree 2 (some (.object "CarriedHistory$Tree")) [(4, 4), (0, a2)] sh M (gPp sh M (4, v50)) ∧
                  (∃ P53 : Option gV → gM → Prop, gC (gr 1 25) yX0_measure cX0_measure 10 none [(4, 440), (4, v42), (4, v50)] sh M (gPm sh P53) ∧ ∀ (r53 : Option gV) (M53 : gM), P53 r53 M53 → r53 = none ∧ gOK sh M53 ∧
                    (if a3 = 3 then
                      (∃ P65 : Option gV → gM → Prop, gC (gr 3 73) yX0_pairUp cX0_pairUp 3 none [(4, 440)] sh M53 (gPm sh P65) ∧ ∀ (r65 : Option gV) (M65 : gM), P65 r65 M65 → r65 = none ∧ gOK sh M65 ∧
                        (Q (some (0, (M65 440 6))) sh M65))
                    else
                      (∃ v81 : Int, gC (gr 0 0) yX0_countOf cX0_countOf 4 (some (.int)) [(4, 440), (0, a3)] sh M53 (gPp sh M53 (0, v81)) ∧
                        (Q (some (0, v81)) sh M53))))))))))))) : gC (gr 4 95) yX11_diff cX11_diff 4 (some (.int)) [(4, 0), (0, a1), (0, a2), (0, a3)] sh M Q := by
  refine gC_ofA (lv := [_, _, _, _]) (by decide +kernel) (Nat.le_of_ble_eq_true rfl) rfl (fun hMw hav => ?_)
  refine g_aload_n (q0 := 1) (j := 0) rfl dX11_diff_0 rfl ?_
  refine g_getp (q0 := 4) (b := 4) rfl ff_X11_27 dX11_diff_1 rfl hOK (by decide) (sh_0 hOK) rfl (by decide) ?_
  refine g_iload_n (q0 := 5) (j := 1) rfl dX11_diff_4 rfl ?_
  obtain ⟨v5, e5, h⟩ := h
  refine g_callVp (as := [_]) (rest := []) mt_X1_has mi_X1_has se_X1_has ml_X11_152 dX11_diff_5 (q0 := 8) rfl rfl (sh_4 hOK) rfl rfl e5 rfl ⟨by decide, by decide⟩ (Nat.le_of_ble_eq_true rfl) ⟨Nat.zero_le _, Nat.zero_le _⟩ (fun _ => ?_)
  refine g_if_eq (q0 := 11) (tgt := 31) rfl dX11_diff_8 (by decide) (fun h8 => ?_) (fun h8 => ?_)
  · replace h := wI_pos h8 h
    refine g_iconst (q0 := 32) rfl dX11_diff_31 (k := ?_)
    exact g_ireturn dX11_diff_32 rfl ⟨Nat.zero_le _, Nat.zero_le _⟩ h
  · replace h := wI_neg h8 h
    refine g_aload_n (q0 := 12) (j := 0) rfl dX11_diff_11 rfl ?_
    refine g_getp (q0 := 15) (b := 4) rfl ff_X11_27 dX11_diff_12 rfl hOK (by decide) (sh_0 hOK) rfl (by decide) ?_
    refine g_iload_n (q0 := 16) (j := 2) rfl dX11_diff_15 rfl ?_
    obtain ⟨v16, e16, h⟩ := h
    refine g_callVp (as := [_]) (rest := []) mt_X1_has mi_X1_has se_X1_has ml_X11_152 dX11_diff_16 (q0 := 19) rfl rfl (sh_4 hOK) rfl rfl e16 rfl ⟨by decide, by decide⟩ (Nat.le_of_ble_eq_true rfl) ⟨Nat.zero_le _, Nat.zero_le _⟩ (fun _ => ?_)
    refine g_if_eq (q0 := 22) (tgt := 31) rfl dX11_diff_19 (by decide) (fun h19 => ?_) (fun h19 => ?_)
    · replace h := wI_pos h19 h
      refine g_iconst (q0 := 32) rfl dX11_diff_31 (k := ?_)
      exact g_ireturn dX11_diff_32 rfl ⟨Nat.zero_le _, Nat.zero_le _⟩ h
    · replace h := wI_neg h19 h
      refine g_iload_n (q0 := 23) (j := 3) rfl dX11_diff_22 rfl ?_
      refine g_if_lt (q0 := 26) (tgt := 31) rfl dX11_diff_23 (by decide) (fun h23 => ?_) (fun h23 => ?_)
      · replace h := wI_pos h23 h
        refine g_iconst (q0 := 32) rfl dX11_diff_31 (k := ?_)
        exact g_ireturn dX11_diff_32 rfl ⟨Nat.zero_le _, Nat.zero_le _⟩ h
      · replace h := wI_neg (Int.not_lt.mpr h23) h
        refine g_iload_n (q0 := 27) (j := 3) rfl dX11_diff_26 rfl ?_
        refine g_iconst (q0 := 28) rfl dX11_diff_27 (k := ?_)
        refine g_icmp_le (q0 := 31) (tgt := 33) rfl dX11_diff_28 (by decide) (fun h28 => ?_) (fun h28 => ?_)
        · replace h := wI_neg (Int.not_lt.mpr h28) h
          refine g_aload_n (q0 := 34) (j := 0) rfl dX11_diff_33 rfl ?_
          refine g_getp (q0 := 37) (b := 440) rfl ff_X11_62 dX11_diff_34 rfl hOK (by decide) (sh_0 hOK) rfl (by decide) ?_
          refine g_aload_n (q0 := 38) (j := 0) rfl dX11_diff_37 rfl ?_
          refine g_getp (q0 := 41) (b := 4) rfl ff_X11_27 dX11_diff_38 rfl hOK (by decide) (sh_0 hOK) rfl (by decide) ?_
          refine g_iload_n (q0 := 42) (j := 1) rfl dX11_diff_41 rfl ?_
          obtain ⟨v42, e42, h⟩ := h
          refine g_callVp (as := [_]) (rest := [_]) mt_X1_tree mi_X1_tree se_X1_tree ml_X11_155 dX11_diff_42 (q0 := 45) rfl rfl (sh_4 hOK) rfl rfl e42 rfl ⟨by decide, by decide⟩ (Nat.le_of_ble_eq_true rfl) ⟨Nat.zero_le _, Nat.zero_le _⟩ (fun _ => ?_)
          refine g_aload_n (q0 := 46) (j := 0) rfl dX11_diff_45 rfl ?_
          refine g_getp (q0 := 49) (b := 4) rfl ff_X11_27 dX11_diff_46 rfl hOK (by decide) (sh_0 hOK) rfl (by decide) ?_
          refine g_iload_n (q0 := 50) (j := 2) rfl dX11_diff_49 rfl ?_
          obtain ⟨v50, e50, h⟩ := h
          refine g_callVp (as := [_]) (rest := [_, _]) mt_X1_tree mi_X1_tree se_X1_tree ml_X11_155 dX11_diff_50 (q0 := 53) rfl rfl (sh_4 hOK) rfl rfl e50 rfl ⟨by decide, by decide⟩ (Nat.le_of_ble_eq_true rfl) ⟨Nat.zero_le _, Nat.zero_le _⟩ (fun _ => ?_)
          obtain ⟨P53, e53, h⟩ := h
          refine g_callVm (as := [_, _]) (rest := []) mt_X0_measure mi_X0_measure se_X0_measure ml_X11_274 dX11_diff_53 (q0 := 56) rfl rfl (sh_440 hOK) rfl rfl e53 rfl ⟨by decide, by decide⟩ (Nat.le_of_ble_eq_true rfl) ⟨Nat.zero_le _, Nat.zero_le _⟩ (fun r53 M53 hP53 hw53 hMw53 => ?_)
          obtain ⟨hr53, hOK1, h⟩ := h r53 M53 hP53
          subst hr53
          refine g_iload_n (q0 := 57) (j := 3) rfl dX11_diff_56 rfl ?_
          refine g_iconst (q0 := 58) rfl dX11_diff_57 (k := ?_)
          refine g_icmp_ne (q0 := 61) (tgt := 76) rfl dX11_diff_58 (by decide) (fun h58 => ?_) (fun h58 => ?_)
          · replace h := wI_neg h58 h
            refine g_aload_n (q0 := 77) (j := 0) rfl dX11_diff_76 rfl ?_
            refine g_getp (q0 := 80) (b := 440) rfl ff_X11_62 dX11_diff_77 rfl hOK1 (by decide) (sh_0 hOK1) rfl (by decide) ?_
            refine g_iload_n (q0 := 81) (j := 3) rfl dX11_diff_80 rfl ?_
            obtain ⟨v81, e81, h⟩ := h
            refine g_callVp (as := [_]) (rest := []) mt_X0_countOf mi_X0_countOf se_X0_countOf ml_X11_571 dX11_diff_81 (q0 := 84) rfl rfl (sh_440 hOK1) rfl rfl e81 rfl ⟨by decide, by decide⟩ (Nat.le_of_ble_eq_true rfl) ⟨Nat.zero_le _, Nat.zero_le _⟩ (fun _ => ?_)
            exact g_ireturn dX11_diff_84 rfl ⟨Nat.zero_le _, Nat.zero_le _⟩ h
          · replace h := wI_pos h58 h
            refine g_aload_n (q0 := 62) (j := 0) rfl dX11_diff_61 rfl ?_
            refine g_getp (q0 := 65) (b := 440) rfl ff_X11_62 dX11_diff_62 rfl hOK1 (by decide) (sh_0 hOK1) rfl (by decide) ?_
            obtain ⟨P65, e65, h⟩ := h
            refine g_callVm (as := []) (rest := []) mt_X0_pairUp mi_X0_pairUp se_X0_pairUp ml_X11_565 dX11_diff_65 (q0 := 68) rfl rfl (sh_440 hOK1) rfl rfl e65 rfl ⟨by decide, by decide⟩ (Nat.le_of_ble_eq_true rfl) ⟨Nat.zero_le _, Nat.zero_le _⟩ (fun r65 M65 hP65 hw65 hMw65 => ?_)
            obtain ⟨hr65, hOK2, h⟩ := h r65 M65 hP65
            subst hr65
            refine g_aload_n (q0 := 69) (j := 0) rfl dX11_diff_68 rfl ?_
            refine g_getp (q0 := 72) (b := 440) rfl ff_X11_62 dX11_diff_69 rfl hOK2 (by decide) (sh_0 hOK2) rfl (by decide) ?_
            refine g_getf (q0 := 75) (t := 0) (fi := 6) rfl rfl ff_X11_568 dX11_diff_72 rfl (sh_440 hOK2) ?_
            exact g_ireturn dX11_diff_75 rfl ⟨Nat.zero_le _, Nat.zero_le _⟩ h
        · replace h := wI_pos h28 h
          refine g_iconst (q0 := 32) rfl dX11_diff_31 (k := ?_)
          exact g_ireturn dX11_diff_32 rfl ⟨Nat.zero_le _, Nat.zero_le _⟩ h
-- ==== X11_renamed
theorem dX11_renamed_0 : decode cX11_renamed 0 = .ok (.aload_n 0, 1) := by decide +kernel
theorem dX11_renamed_1 : decode cX11_renamed 1 = .ok (.getfield 27, 3) := by decide +kernel
theorem dX11_renamed_4 : decode cX11_renamed 4 = .ok (.iload_n 1, 1) := by decide +kernel
theorem dX11_renamed_5 : decode cX11_renamed 5 = .ok (.invokevirtual 152, 3) := by decide +kernel
theorem dX11_renamed_8 : decode cX11_renamed 8 = .ok (.ifCond .eq 35, 3) := by decide +kernel
theorem dX11_renamed_11 : decode cX11_renamed 11 = .ok (.aload_n 0, 1) := by decide +kernel
theorem dX11_renamed_12 : decode cX11_renamed 12 = .ok (.getfield 27, 3) := by decide +kernel
theorem dX11_renamed_15 : decode cX11_renamed 15 = .ok (.iload_n 2, 1) := by decide +kernel
theorem dX11_renamed_16 : decode cX11_renamed 16 = .ok (.invokevirtual 152, 3) := by decide +kernel
theorem dX11_renamed_19 : decode cX11_renamed 19 = .ok (.ifCond .eq 24, 3) := by decide +kernel
theorem dX11_renamed_22 : decode cX11_renamed 22 = .ok (.iload_n 3, 1) := by decide +kernel
theorem dX11_renamed_23 : decode cX11_renamed 23 = .ok (.ifCond .lt 20, 3) := by decide +kernel
theorem dX11_renamed_26 : decode cX11_renamed 26 = .ok (.iload_n 3, 1) := by decide +kernel
theorem dX11_renamed_27 : decode cX11_renamed 27 = .ok (.bipush 16, 2) := by decide +kernel
theorem dX11_renamed_29 : decode cX11_renamed 29 = .ok (.if_icmp .ge 14, 3) := by decide +kernel
theorem dX11_renamed_32 : decode cX11_renamed 32 = .ok (.iload 4, 2) := by decide +kernel
theorem dX11_renamed_34 : decode cX11_renamed 34 = .ok (.ifCond .lt 9, 3) := by decide +kernel
theorem dX11_renamed_37 : decode cX11_renamed 37 = .ok (.iload 4, 2) := by decide +kernel
theorem dX11_renamed_39 : decode cX11_renamed 39 = .ok (.iconst 3, 1) := by decide +kernel
theorem dX11_renamed_40 : decode cX11_renamed 40 = .ok (.if_icmp .le 5, 3) := by decide +kernel
theorem dX11_renamed_43 : decode cX11_renamed 43 = .ok (.iconst (-1), 1) := by decide +kernel
theorem dX11_renamed_44 : decode cX11_renamed 44 = .ok (.ireturn, 1) := by decide +kernel
theorem dX11_renamed_45 : decode cX11_renamed 45 = .ok (.aload_n 0, 1) := by decide +kernel
theorem dX11_renamed_46 : decode cX11_renamed 46 = .ok (.getfield 62, 3) := by decide +kernel
theorem dX11_renamed_49 : decode cX11_renamed 49 = .ok (.aload_n 0, 1) := by decide +kernel
theorem dX11_renamed_50 : decode cX11_renamed 50 = .ok (.getfield 27, 3) := by decide +kernel
theorem dX11_renamed_53 : decode cX11_renamed 53 = .ok (.iload_n 1, 1) := by decide +kernel
theorem dX11_renamed_54 : decode cX11_renamed 54 = .ok (.invokevirtual 155, 3) := by decide +kernel
theorem dX11_renamed_57 : decode cX11_renamed 57 = .ok (.aload_n 0, 1) := by decide +kernel
theorem dX11_renamed_58 : decode cX11_renamed 58 = .ok (.getfield 27, 3) := by decide +kernel
theorem dX11_renamed_61 : decode cX11_renamed 61 = .ok (.iload_n 2, 1) := by decide +kernel
theorem dX11_renamed_62 : decode cX11_renamed 62 = .ok (.invokevirtual 155, 3) := by decide +kernel
theorem dX11_renamed_65 : decode cX11_renamed 65 = .ok (.invokevirtual 274, 3) := by decide +kernel
theorem dX11_renamed_68 : decode cX11_renamed 68 = .ok (.aload_n 0, 1) := by decide +kernel
theorem dX11_renamed_69 : decode cX11_renamed 69 = .ok (.getfield 62, 3) := by decide +kernel
theorem dX11_renamed_72 : decode cX11_renamed 72 = .ok (.invokevirtual 565, 3) := by decide +kernel
theorem dX11_renamed_75 : decode cX11_renamed 75 = .ok (.iload_n 3, 1) := by decide +kernel
theorem dX11_renamed_76 : decode cX11_renamed 76 = .ok (.aload_n 0, 1) := by decide +kernel
theorem dX11_renamed_77 : decode cX11_renamed 77 = .ok (.getfield 62, 3) := by decide +kernel
theorem dX11_renamed_80 : decode cX11_renamed 80 = .ok (.getfield 568, 3) := by decide +kernel
theorem dX11_renamed_83 : decode cX11_renamed 83 = .ok (.if_icmp .lt 6, 3) := by decide +kernel
theorem dX11_renamed_86 : decode cX11_renamed 86 = .ok (.bipush (-4), 2) := by decide +kernel
theorem dX11_renamed_88 : decode cX11_renamed 88 = .ok (.ireturn, 1) := by decide +kernel
theorem dX11_renamed_89 : decode cX11_renamed 89 = .ok (.iload 4, 2) := by decide +kernel
theorem dX11_renamed_91 : decode cX11_renamed 91 = .ok (.tableswitch 58 0 2 #[25, 35, 45], 25) := by decide +kernel
theorem dX11_renamed_116 : decode cX11_renamed 116 = .ok (.aload_n 0, 1) := by decide +kernel
theorem dX11_renamed_117 : decode cX11_renamed 117 = .ok (.getfield 62, 3) := by decide +kernel
theorem dX11_renamed_120 : decode cX11_renamed 120 = .ok (.getfield 574, 3) := by decide +kernel
theorem dX11_renamed_123 : decode cX11_renamed 123 = .ok (.iload_n 3, 1) := by decide +kernel
theorem dX11_renamed_124 : decode cX11_renamed 124 = .ok (.iaload, 1) := by decide +kernel
theorem dX11_renamed_125 : decode cX11_renamed 125 = .ok (.ireturn, 1) := by decide +kernel
theorem dX11_renamed_126 : decode cX11_renamed 126 = .ok (.aload_n 0, 1) := by decide +kernel
theorem dX11_renamed_127 : decode cX11_renamed 127 = .ok (.getfield 62, 3) := by decide +kernel
theorem dX11_renamed_130 : decode cX11_renamed 130 = .ok (.getfield 577, 3) := by decide +kernel
theorem dX11_renamed_133 : decode cX11_renamed 133 = .ok (.iload_n 3, 1) := by decide +kernel
theorem dX11_renamed_134 : decode cX11_renamed 134 = .ok (.iaload, 1) := by decide +kernel
theorem dX11_renamed_135 : decode cX11_renamed 135 = .ok (.ireturn, 1) := by decide +kernel
theorem dX11_renamed_136 : decode cX11_renamed 136 = .ok (.aload_n 0, 1) := by decide +kernel
theorem dX11_renamed_137 : decode cX11_renamed 137 = .ok (.getfield 62, 3) := by decide +kernel
theorem dX11_renamed_140 : decode cX11_renamed 140 = .ok (.getfield 580, 3) := by decide +kernel
theorem dX11_renamed_143 : decode cX11_renamed 143 = .ok (.iload_n 3, 1) := by decide +kernel
theorem dX11_renamed_144 : decode cX11_renamed 144 = .ok (.faload, 1) := by decide +kernel
theorem dX11_renamed_145 : decode cX11_renamed 145 = .ok (.invokestatic 584, 3) := by decide +kernel
theorem dX11_renamed_148 : decode cX11_renamed 148 = .ok (.ireturn, 1) := by decide +kernel
theorem dX11_renamed_149 : decode cX11_renamed 149 = .ok (.aload_n 0, 1) := by decide +kernel
theorem dX11_renamed_150 : decode cX11_renamed 150 = .ok (.getfield 62, 3) := by decide +kernel
theorem dX11_renamed_153 : decode cX11_renamed 153 = .ok (.getfield 580, 3) := by decide +kernel
theorem dX11_renamed_156 : decode cX11_renamed 156 = .ok (.iload_n 3, 1) := by decide +kernel
theorem dX11_renamed_157 : decode cX11_renamed 157 = .ok (.faload, 1) := by decide +kernel
theorem dX11_renamed_158 : decode cX11_renamed 158 = .ok (.invokestatic 588, 3) := by decide +kernel
theorem dX11_renamed_161 : decode cX11_renamed 161 = .ok (.ireturn, 1) := by decide +kernel
theorem w_X11_renamed {sh : gS} {Q : Option gV → gS → gM → Prop} {a1 a2 a3 a4 : Int} {M : gM} (hOK : gOK sh M) (h : (∃ v5 : Int, gC (gr 0 0) yX1_has cX1_has 2 (some (.boolean)) [(4, 4), (0, a1)] sh M (gPp sh M (0, v5)) ∧
    (if v5 = 0 then
      (Q (some (0, -1)) sh M)
    else
      (∃ v16 : Int, gC (gr 0 0) yX1_has cX1_has 2 (some (.boolean)) [(4, 4), (0, a2)] sh M (gPp sh M (0, v16)) ∧
        (if v16 = 0 then
          (Q (some (0, -1)) sh M)
        else
          (if a3 < 0 then
            (Q (some (0, -1)) sh M)
          else
            (if a3 < 16 then
              (if a4 < 0 then
                (Q (some (0, -1)) sh M)
              else
                (if (3 : Int) < a4 then
                  (Q (some (0, -1)) sh M)
                else
                  (∃ v54 : Int, gC (gr 0 0) yX1_tree cX1_tree 2 (some (.object "CarriedHistory$Tree")) [(4, 4), (0, a1)] sh M (gPp sh M (4, v54)) ∧
                    (∃ v62 : Int, gC (gr 0 0) yX1_tree cX1_tree 2 (some (.object "CarriedHistory$Tree")) [(4, 4), (0, a2)] sh M (gPp sh M (4, v62)) ∧
                      (∃ P65 : Option gV → gM → Prop, gC (gr 1 25) yX0_measure cX0_measure 10 none [(4, 440), (4, v54), (4, v62)] sh M (gPm sh P65) ∧ ∀ (r65 : Option gV) (M65 : gM), P65 r65 M65 → r65 = none ∧ gOK sh M65 ∧
                        (∃ P72 : Option gV → gM → Prop, gC (gr 3 73) yX0_pairUp cX0_pairUp 3 none [(4, 440)] sh M65 (gPm sh P72) ∧ ∀ (r72 : Option gV) (M72 : gM), P72 r72 M72 → r72 = none ∧ gOK sh M72 ∧
                          (if a3 < (M72 440 6) then
                            (if a4 = 0 then
                              ((0 ≤ a3 ∧ a3 < 16) ∧
                                (Q (some (0, (M72 446 a3))) sh M72))
                            else
                              (if a4 = 1 then
                                ((0 ≤ a3 ∧ a3 < 16) ∧
                                  (Q (some (0, (M72 447 a3))) sh M72))
                              else
                                (if a4 = 2 then
                                  ((0 ≤ a3 ∧ a3 < 16) ∧
                                    (∃ v145 : Int, gC (gr 0 0) yX11_floatBits cX11_floatBits 5 (some (.int)) [(2, (M72 448 a3))] sh M72 (gPp sh M72 (0, v145)) ∧
                                      (Q (some (0, v145)) sh M72)))
                                else
                                  ((0 ≤ a3 ∧ a3 < 16) ∧
                                    (∃ v158 : Int, gC (gr 0 0) yX11_hundredths cX11_hundredths 1 (some (.int)) [(2, (M72 448 a3))] sh M72 (gPp sh M72 (0, v158)) ∧
                                      (Q (some (0, v158)) sh M72))))))
                          else
                            (Q (some (0, -4)) sh M72))))))))
            else
              (Q (some (0, -1)) sh M)))))))) : gC (gr 4 95) yX11_renamed cX11_renamed 5 (some (.int)) [(4, 0), (0, a1), (0, a2), (0, a3), (0, a4)] sh M Q := by
  refine gC_ofA (lv := [_, _, _, _, _]) (by decide +kernel) (Nat.le_of_ble_eq_true rfl) rfl (fun hMw hav => ?_)
  refine g_aload_n (q0 := 1) (j := 0) rfl dX11_renamed_0 rfl ?_
  refine g_getp (q0 := 4) (b := 4) rfl ff_X11_27 dX11_renamed_1 rfl hOK (by decide) (sh_0 hOK) rfl (by decide) ?_
  refine g_iload_n (q0 := 5) (j := 1) rfl dX11_renamed_4 rfl ?_
  obtain ⟨v5, e5, h⟩ := h
  refine g_callVp (as := [_]) (rest := []) mt_X1_has mi_X1_has se_X1_has ml_X11_152 dX11_renamed_5 (q0 := 8) rfl rfl (sh_4 hOK) rfl rfl e5 rfl ⟨by decide, by decide⟩ (Nat.le_of_ble_eq_true rfl) ⟨Nat.zero_le _, Nat.zero_le _⟩ (fun _ => ?_)
  refine g_if_eq (q0 := 11) (tgt := 43) rfl dX11_renamed_8 (by decide) (fun h8 => ?_) (fun h8 => ?_)
  · replace h := wI_pos h8 h
    refine g_iconst (q0 := 44) rfl dX11_renamed_43 (k := ?_)
    exact g_ireturn dX11_renamed_44 rfl ⟨Nat.zero_le _, Nat.zero_le _⟩ h
  · replace h := wI_neg h8 h
    refine g_aload_n (q0 := 12) (j := 0) rfl dX11_renamed_11 rfl ?_
    refine g_getp (q0 := 15) (b := 4) rfl ff_X11_27 dX11_renamed_12 rfl hOK (by decide) (sh_0 hOK) rfl (by decide) ?_
    refine g_iload_n (q0 := 16) (j := 2) rfl dX11_renamed_15 rfl ?_
    obtain ⟨v16, e16, h⟩ := h
    refine g_callVp (as := [_]) (rest := []) mt_X1_has mi_X1_has se_X1_has ml_X11_152 dX11_renamed_16 (q0 := 19) rfl rfl (sh_4 hOK) rfl rfl e16 rfl ⟨by decide, by decide⟩ (Nat.le_of_ble_eq_true rfl) ⟨Nat.zero_le _, Nat.zero_le _⟩ (fun _ => ?_)
    refine g_if_eq (q0 := 22) (tgt := 43) rfl dX11_renamed_19 (by decide) (fun h19 => ?_) (fun h19 => ?_)
    · replace h := wI_pos h19 h
      refine g_iconst (q0 := 44) rfl dX11_renamed_43 (k := ?_)
      exact g_ireturn dX11_renamed_44 rfl ⟨Nat.zero_le _, Nat.zero_le _⟩ h
    · replace h := wI_neg h19 h
      refine g_iload_n (q0 := 23) (j := 3) rfl dX11_renamed_22 rfl ?_
      refine g_if_lt (q0 := 26) (tgt := 43) rfl dX11_renamed_23 (by decide) (fun h23 => ?_) (fun h23 => ?_)
      · replace h := wI_pos h23 h
        refine g_iconst (q0 := 44) rfl dX11_renamed_43 (k := ?_)
        exact g_ireturn dX11_renamed_44 rfl ⟨Nat.zero_le _, Nat.zero_le _⟩ h
      · replace h := wI_neg (Int.not_lt.mpr h23) h
        refine g_iload_n (q0 := 27) (j := 3) rfl dX11_renamed_26 rfl ?_
        refine g_bipush (q0 := 29) rfl dX11_renamed_27 (k := ?_)
        refine g_icmp_ge (q0 := 32) (tgt := 43) rfl dX11_renamed_29 (by decide) (fun h29 => ?_) (fun h29 => ?_)
        · replace h := wI_neg (Int.not_lt.mpr h29) h
          refine g_iconst (q0 := 44) rfl dX11_renamed_43 (k := ?_)
          exact g_ireturn dX11_renamed_44 rfl ⟨Nat.zero_le _, Nat.zero_le _⟩ h
        · replace h := wI_pos h29 h
          refine g_iload (q0 := 34) (j := 4) rfl dX11_renamed_32 rfl ?_
          refine g_if_lt (q0 := 37) (tgt := 43) rfl dX11_renamed_34 (by decide) (fun h34 => ?_) (fun h34 => ?_)
          · replace h := wI_pos h34 h
            refine g_iconst (q0 := 44) rfl dX11_renamed_43 (k := ?_)
            exact g_ireturn dX11_renamed_44 rfl ⟨Nat.zero_le _, Nat.zero_le _⟩ h
          · replace h := wI_neg (Int.not_lt.mpr h34) h
            refine g_iload (q0 := 39) (j := 4) rfl dX11_renamed_37 rfl ?_
            refine g_iconst (q0 := 40) rfl dX11_renamed_39 (k := ?_)
            refine g_icmp_le (q0 := 43) (tgt := 45) rfl dX11_renamed_40 (by decide) (fun h40 => ?_) (fun h40 => ?_)
            · replace h := wI_neg (Int.not_lt.mpr h40) h
              refine g_aload_n (q0 := 46) (j := 0) rfl dX11_renamed_45 rfl ?_
              refine g_getp (q0 := 49) (b := 440) rfl ff_X11_62 dX11_renamed_46 rfl hOK (by decide) (sh_0 hOK) rfl (by decide) ?_
              refine g_aload_n (q0 := 50) (j := 0) rfl dX11_renamed_49 rfl ?_
              refine g_getp (q0 := 53) (b := 4) rfl ff_X11_27 dX11_renamed_50 rfl hOK (by decide) (sh_0 hOK) rfl (by decide) ?_
              refine g_iload_n (q0 := 54) (j := 1) rfl dX11_renamed_53 rfl ?_
              obtain ⟨v54, e54, h⟩ := h
              refine g_callVp (as := [_]) (rest := [_]) mt_X1_tree mi_X1_tree se_X1_tree ml_X11_155 dX11_renamed_54 (q0 := 57) rfl rfl (sh_4 hOK) rfl rfl e54 rfl ⟨by decide, by decide⟩ (Nat.le_of_ble_eq_true rfl) ⟨Nat.zero_le _, Nat.zero_le _⟩ (fun _ => ?_)
              refine g_aload_n (q0 := 58) (j := 0) rfl dX11_renamed_57 rfl ?_
              refine g_getp (q0 := 61) (b := 4) rfl ff_X11_27 dX11_renamed_58 rfl hOK (by decide) (sh_0 hOK) rfl (by decide) ?_
              refine g_iload_n (q0 := 62) (j := 2) rfl dX11_renamed_61 rfl ?_
              obtain ⟨v62, e62, h⟩ := h
              refine g_callVp (as := [_]) (rest := [_, _]) mt_X1_tree mi_X1_tree se_X1_tree ml_X11_155 dX11_renamed_62 (q0 := 65) rfl rfl (sh_4 hOK) rfl rfl e62 rfl ⟨by decide, by decide⟩ (Nat.le_of_ble_eq_true rfl) ⟨Nat.zero_le _, Nat.zero_le _⟩ (fun _ => ?_)
              obtain ⟨P65, e65, h⟩ := h
              refine g_callVm (as := [_, _]) (rest := []) mt_X0_measure mi_X0_measure se_X0_measure ml_X11_274 dX11_renamed_65 (q0 := 68) rfl rfl (sh_440 hOK) rfl rfl e65 rfl ⟨by decide, by decide⟩ (Nat.le_of_ble_eq_true rfl) ⟨Nat.zero_le _, Nat.zero_le _⟩ (fun r65 M65 hP65 hw65 hMw65 => ?_)
              obtain ⟨hr65, hOK1, h⟩ := h r65 M65 hP65
              subst hr65
              refine g_aload_n (q0 := 69) (j := 0) rfl dX11_renamed_68 rfl ?_
              refine g_getp (q0 := 72) (b := 440) rfl ff_X11_62 dX11_renamed_69 rfl hOK1 (by decide) (sh_0 hOK1) rfl (by decide) ?_
              obtain ⟨P72, e72, h⟩ := h
              refine g_callVm (as := []) (rest := []) mt_X0_pairUp mi_X0_pairUp se_X0_pairUp ml_X11_565 dX11_renamed_72 (q0 := 75) rfl rfl (sh_440 hOK1) rfl rfl e72 rfl ⟨by decide, by decide⟩ (Nat.le_of_ble_eq_true rfl) ⟨Nat.zero_le _, Nat.zero_le _⟩ (fun r72 M72 hP72 hw72 hMw72 => ?_)
              obtain ⟨hr72, hOK2, h⟩ := h r72 M72 hP72
              subst hr72
              refine g_iload_n (q0 := 76) (j := 3) rfl dX11_renamed_75 rfl ?_
              refine g_aload_n (q0 := 77) (j := 0) rfl dX11_renamed_76 rfl ?_
              refine g_getp (q0 := 80) (b := 440) rfl ff_X11_62 dX11_renamed_77 rfl hOK2 (by decide) (sh_0 hOK2) rfl (by decide) ?_
              refine g_getf (q0 := 83) (t := 0) (fi := 6) rfl rfl ff_X11_568 dX11_renamed_80 rfl (sh_440 hOK2) ?_
              refine g_icmp_lt (q0 := 86) (tgt := 89) rfl dX11_renamed_83 (by decide) (fun h83 => ?_) (fun h83 => ?_)
              · replace h := wI_pos h83 h
                refine g_iload (q0 := 91) (j := 4) rfl dX11_renamed_89 rfl ?_
                by_cases hs0 : a4 = 0
                · replace h := wI_pos hs0 h
                  refine g_tabIn (off := 25) (tgt := 116) dX11_renamed_91 (by omega) (by omega) (by rw [hs0]; rfl) (by decide) ?_
                  refine g_aload_n (q0 := 117) (j := 0) rfl dX11_renamed_116 rfl ?_
                  refine g_getp (q0 := 120) (b := 440) rfl ff_X11_62 dX11_renamed_117 rfl hOK2 (by decide) (sh_0 hOK2) rfl (by decide) ?_
                  refine g_getp (q0 := 123) (b := 446) rfl ff_X11_574 dX11_renamed_120 rfl hOK2 (by decide) (sh_440 hOK2) rfl (by decide) ?_
                  refine g_iload_n (q0 := 124) (j := 3) rfl dX11_renamed_123 rfl ?_
                  obtain ⟨g6, h⟩ := h
                  refine g_iald (q0 := 125) rfl dX11_renamed_124 (sh_446 hOK2) g6.1 g6.2 ?_
                  exact g_ireturn dX11_renamed_125 rfl ⟨Nat.zero_le _, Nat.zero_le _⟩ h
                · replace h := wI_neg hs0 h
                  by_cases hs1 : a4 = 1
                  · replace h := wI_pos hs1 h
                    refine g_tabIn (off := 35) (tgt := 126) dX11_renamed_91 (by omega) (by omega) (by rw [hs1]; rfl) (by decide) ?_
                    refine g_aload_n (q0 := 127) (j := 0) rfl dX11_renamed_126 rfl ?_
                    refine g_getp (q0 := 130) (b := 440) rfl ff_X11_62 dX11_renamed_127 rfl hOK2 (by decide) (sh_0 hOK2) rfl (by decide) ?_
                    refine g_getp (q0 := 133) (b := 447) rfl ff_X11_577 dX11_renamed_130 rfl hOK2 (by decide) (sh_440 hOK2) rfl (by decide) ?_
                    refine g_iload_n (q0 := 134) (j := 3) rfl dX11_renamed_133 rfl ?_
                    obtain ⟨g5, h⟩ := h
                    refine g_iald (q0 := 135) rfl dX11_renamed_134 (sh_447 hOK2) g5.1 g5.2 ?_
                    exact g_ireturn dX11_renamed_135 rfl ⟨Nat.zero_le _, Nat.zero_le _⟩ h
                  · replace h := wI_neg hs1 h
                    by_cases hs2 : a4 = 2
                    · replace h := wI_pos hs2 h
                      refine g_tabIn (off := 45) (tgt := 136) dX11_renamed_91 (by omega) (by omega) (by rw [hs2]; rfl) (by decide) ?_
                      refine g_aload_n (q0 := 137) (j := 0) rfl dX11_renamed_136 rfl ?_
                      refine g_getp (q0 := 140) (b := 440) rfl ff_X11_62 dX11_renamed_137 rfl hOK2 (by decide) (sh_0 hOK2) rfl (by decide) ?_
                      refine g_getp (q0 := 143) (b := 448) rfl ff_X11_580 dX11_renamed_140 rfl hOK2 (by decide) (sh_440 hOK2) rfl (by decide) ?_
                      refine g_iload_n (q0 := 144) (j := 3) rfl dX11_renamed_143 rfl ?_
                      obtain ⟨g4, h⟩ := h
                      refine g_fald (q0 := 145) rfl dX11_renamed_144 (sh_448 hOK2) g4.1 g4.2 ?_
                      obtain ⟨v145, e145, h⟩ := h
                      refine g_callSp (as := [_]) (rest := []) mt_X11_floatBits ms_X11_floatBits ml_X11_584 dX11_renamed_145 (q0 := 148) rfl rfl e145 rfl ⟨by decide, by decide⟩ (Nat.le_of_ble_eq_true rfl) ⟨Nat.zero_le _, Nat.zero_le _⟩ (fun _ => ?_)
                      exact g_ireturn dX11_renamed_148 rfl ⟨Nat.zero_le _, Nat.zero_le _⟩ h
                    · replace h := wI_neg hs2 h
                      refine g_tabOut (tgt := 149) dX11_renamed_91 (by omega) (by decide) ?_
                      refine g_aload_n (q0 := 150) (j := 0) rfl dX11_renamed_149 rfl ?_
                      refine g_getp (q0 := 153) (b := 440) rfl ff_X11_62 dX11_renamed_150 rfl hOK2 (by decide) (sh_0 hOK2) rfl (by decide) ?_
                      refine g_getp (q0 := 156) (b := 448) rfl ff_X11_580 dX11_renamed_153 rfl hOK2 (by decide) (sh_440 hOK2) rfl (by decide) ?_
                      refine g_iload_n (q0 := 157) (j := 3) rfl dX11_renamed_156 rfl ?_
                      obtain ⟨g3, h⟩ := h
                      refine g_fald (q0 := 158) rfl dX11_renamed_157 (sh_448 hOK2) g3.1 g3.2 ?_
                      obtain ⟨v158, e158, h⟩ := h
                      refine g_callSp (as := [_]) (rest := []) mt_X11_hundredths ms_X11_hundredths ml_X11_588 dX11_renamed_158 (q0 := 161) rfl rfl e158 rfl ⟨by decide, by decide⟩ (Nat.le_of_ble_eq_true rfl) ⟨Nat.zero_le _, Nat.zero_le _⟩ (fun _ => ?_)
                      exact g_ireturn dX11_renamed_161 rfl ⟨Nat.zero_le _, Nat.zero_le _⟩ h
              · replace h := wI_neg (Int.not_lt.mpr h83) h
                refine g_bipush (q0 := 88) rfl dX11_renamed_86 (k := ?_)
                exact g_ireturn dX11_renamed_88 rfl ⟨Nat.zero_le _, Nat.zero_le _⟩ h
            · replace h := wI_pos h40 h
              refine g_iconst (q0 := 44) rfl dX11_renamed_43 (k := ?_)
              exact g_ireturn dX11_renamed_44 rfl ⟨Nat.zero_le _, Nat.zero_le _⟩ h
