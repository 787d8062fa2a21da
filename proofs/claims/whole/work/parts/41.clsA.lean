-- ==== what must hold for a method of the class to do something
theorem wI_pos {c : Prop} [Decidable c] {a b : Prop} (hc : c) (h : if c then a else b) : a := by rwa [if_pos hc] at h
theorem wI_neg {c : Prop} [Decidable c] {a b : Prop} (hc : ¬ c) (h : if c then a else b) : b := by rwa [if_neg hc] at h
-- ==== X0_measure
theorem dX0_measure_0 : decode cX0_measure 0 = .ok (.aload_n 0, 1) := by decide +kernel
theorem dX0_measure_1 : decode cX0_measure 1 = .ok (.iconst 0, 1) := by decide +kernel
theorem dX0_measure_2 : decode cX0_measure 2 = .ok (.putfield 55, 3) := by decide +kernel
theorem dX0_measure_5 : decode cX0_measure 5 = .ok (.aload_n 0, 1) := by decide +kernel
theorem dX0_measure_6 : decode cX0_measure 6 = .ok (.iconst 0, 1) := by decide +kernel
theorem dX0_measure_7 : decode cX0_measure 7 = .ok (.putfield 59, 3) := by decide +kernel
theorem dX0_measure_10 : decode cX0_measure 10 = .ok (.iconst 0, 1) := by decide +kernel
theorem dX0_measure_11 : decode cX0_measure 11 = .ok (.istore_n 3, 1) := by decide +kernel
theorem dX0_measure_12 : decode cX0_measure 12 = .ok (.iconst 0, 1) := by decide +kernel
theorem dX0_measure_13 : decode cX0_measure 13 = .ok (.istore 4, 2) := by decide +kernel
theorem dX0_measure_15 : decode cX0_measure 15 = .ok (.iconst 0, 1) := by decide +kernel
theorem dX0_measure_16 : decode cX0_measure 16 = .ok (.istore 5, 2) := by decide +kernel
theorem dX0_measure_18 : decode cX0_measure 18 = .ok (.iload 5, 2) := by decide +kernel
theorem dX0_measure_20 : decode cX0_measure 20 = .ok (.bipush 32, 2) := by decide +kernel
theorem dX0_measure_22 : decode cX0_measure 22 = .ok (.if_icmp .ge 208, 3) := by decide +kernel
theorem dX0_measure_25 : decode cX0_measure 25 = .ok (.iload_n 3, 1) := by decide +kernel
theorem dX0_measure_26 : decode cX0_measure 26 = .ok (.aload_n 1, 1) := by decide +kernel
theorem dX0_measure_27 : decode cX0_measure 27 = .ok (.getfield 62, 3) := by decide +kernel
theorem dX0_measure_30 : decode cX0_measure 30 = .ok (.if_icmp .lt 12, 3) := by decide +kernel
theorem dX0_measure_33 : decode cX0_measure 33 = .ok (.iload 4, 2) := by decide +kernel
theorem dX0_measure_35 : decode cX0_measure 35 = .ok (.aload_n 2, 1) := by decide +kernel
theorem dX0_measure_36 : decode cX0_measure 36 = .ok (.getfield 62, 3) := by decide +kernel
theorem dX0_measure_39 : decode cX0_measure 39 = .ok (.if_icmp .ge 191, 3) := by decide +kernel
theorem dX0_measure_42 : decode cX0_measure 42 = .ok (.iload 4, 2) := by decide +kernel
theorem dX0_measure_44 : decode cX0_measure 44 = .ok (.aload_n 2, 1) := by decide +kernel
theorem dX0_measure_45 : decode cX0_measure 45 = .ok (.getfield 62, 3) := by decide +kernel
theorem dX0_measure_48 : decode cX0_measure 48 = .ok (.if_icmp .ge 27, 3) := by decide +kernel
theorem dX0_measure_51 : decode cX0_measure 51 = .ok (.iload_n 3, 1) := by decide +kernel
theorem dX0_measure_52 : decode cX0_measure 52 = .ok (.aload_n 1, 1) := by decide +kernel
theorem dX0_measure_53 : decode cX0_measure 53 = .ok (.getfield 62, 3) := by decide +kernel
theorem dX0_measure_56 : decode cX0_measure 56 = .ok (.if_icmp .ge 23, 3) := by decide +kernel
theorem dX0_measure_59 : decode cX0_measure 59 = .ok (.aload_n 1, 1) := by decide +kernel
theorem dX0_measure_60 : decode cX0_measure 60 = .ok (.getfield 65, 3) := by decide +kernel
theorem dX0_measure_63 : decode cX0_measure 63 = .ok (.iload_n 3, 1) := by decide +kernel
theorem dX0_measure_64 : decode cX0_measure 64 = .ok (.iaload, 1) := by decide +kernel
theorem dX0_measure_65 : decode cX0_measure 65 = .ok (.aload_n 2, 1) := by decide +kernel
theorem dX0_measure_66 : decode cX0_measure 66 = .ok (.getfield 65, 3) := by decide +kernel
theorem dX0_measure_69 : decode cX0_measure 69 = .ok (.iload 4, 2) := by decide +kernel
theorem dX0_measure_71 : decode cX0_measure 71 = .ok (.iaload, 1) := by decide +kernel
theorem dX0_measure_72 : decode cX0_measure 72 = .ok (.if_icmp .gt 7, 3) := by decide +kernel
theorem dX0_measure_75 : decode cX0_measure 75 = .ok (.iconst 1, 1) := by decide +kernel
theorem dX0_measure_76 : decode cX0_measure 76 = .ok (.goto 4, 3) := by decide +kernel
theorem dX0_measure_79 : decode cX0_measure 79 = .ok (.iconst 0, 1) := by decide +kernel
theorem dX0_measure_80 : decode cX0_measure 80 = .ok (.istore 6, 2) := by decide +kernel
theorem dX0_measure_82 : decode cX0_measure 82 = .ok (.iload_n 3, 1) := by decide +kernel
theorem dX0_measure_83 : decode cX0_measure 83 = .ok (.aload_n 1, 1) := by decide +kernel
theorem dX0_measure_84 : decode cX0_measure 84 = .ok (.getfield 62, 3) := by decide +kernel
theorem dX0_measure_87 : decode cX0_measure 87 = .ok (.if_icmp .ge 28, 3) := by decide +kernel
theorem dX0_measure_90 : decode cX0_measure 90 = .ok (.iload 4, 2) := by decide +kernel
theorem dX0_measure_92 : decode cX0_measure 92 = .ok (.aload_n 2, 1) := by decide +kernel
theorem dX0_measure_93 : decode cX0_measure 93 = .ok (.getfield 62, 3) := by decide +kernel
theorem dX0_measure_96 : decode cX0_measure 96 = .ok (.if_icmp .ge 23, 3) := by decide +kernel
theorem dX0_measure_99 : decode cX0_measure 99 = .ok (.aload_n 2, 1) := by decide +kernel
theorem dX0_measure_100 : decode cX0_measure 100 = .ok (.getfield 65, 3) := by decide +kernel
theorem dX0_measure_103 : decode cX0_measure 103 = .ok (.iload 4, 2) := by decide +kernel
theorem dX0_measure_105 : decode cX0_measure 105 = .ok (.iaload, 1) := by decide +kernel
theorem dX0_measure_106 : decode cX0_measure 106 = .ok (.aload_n 1, 1) := by decide +kernel
theorem dX0_measure_107 : decode cX0_measure 107 = .ok (.getfield 65, 3) := by decide +kernel
theorem dX0_measure_110 : decode cX0_measure 110 = .ok (.iload_n 3, 1) := by decide +kernel
theorem dX0_measure_111 : decode cX0_measure 111 = .ok (.iaload, 1) := by decide +kernel
theorem dX0_measure_112 : decode cX0_measure 112 = .ok (.if_icmp .gt 7, 3) := by decide +kernel
theorem dX0_measure_115 : decode cX0_measure 115 = .ok (.iconst 1, 1) := by decide +kernel
theorem dX0_measure_116 : decode cX0_measure 116 = .ok (.goto 4, 3) := by decide +kernel
theorem dX0_measure_119 : decode cX0_measure 119 = .ok (.iconst 0, 1) := by decide +kernel
theorem dX0_measure_120 : decode cX0_measure 120 = .ok (.istore 7, 2) := by decide +kernel
theorem dX0_measure_122 : decode cX0_measure 122 = .ok (.iload 6, 2) := by decide +kernel
theorem dX0_measure_124 : decode cX0_measure 124 = .ok (.ifCond .eq 12, 3) := by decide +kernel
theorem dX0_measure_127 : decode cX0_measure 127 = .ok (.aload_n 1, 1) := by decide +kernel
theorem dX0_measure_128 : decode cX0_measure 128 = .ok (.getfield 66, 3) := by decide +kernel
theorem dX0_measure_131 : decode cX0_measure 131 = .ok (.iload_n 3, 1) := by decide +kernel
theorem dX0_measure_132 : decode cX0_measure 132 = .ok (.iaload, 1) := by decide +kernel
theorem dX0_measure_133 : decode cX0_measure 133 = .ok (.goto 4, 3) := by decide +kernel
theorem dX0_measure_136 : decode cX0_measure 136 = .ok (.iconst 0, 1) := by decide +kernel
theorem dX0_measure_137 : decode cX0_measure 137 = .ok (.istore 8, 2) := by decide +kernel
theorem dX0_measure_139 : decode cX0_measure 139 = .ok (.iload 7, 2) := by decide +kernel
theorem dX0_measure_141 : decode cX0_measure 141 = .ok (.ifCond .eq 13, 3) := by decide +kernel
theorem dX0_measure_144 : decode cX0_measure 144 = .ok (.aload_n 2, 1) := by decide +kernel
theorem dX0_measure_145 : decode cX0_measure 145 = .ok (.getfield 66, 3) := by decide +kernel
theorem dX0_measure_148 : decode cX0_measure 148 = .ok (.iload 4, 2) := by decide +kernel
theorem dX0_measure_150 : decode cX0_measure 150 = .ok (.iaload, 1) := by decide +kernel
theorem dX0_measure_151 : decode cX0_measure 151 = .ok (.goto 4, 3) := by decide +kernel
theorem dX0_measure_154 : decode cX0_measure 154 = .ok (.iconst 0, 1) := by decide +kernel
theorem dX0_measure_155 : decode cX0_measure 155 = .ok (.istore 9, 2) := by decide +kernel
theorem dX0_measure_157 : decode cX0_measure 157 = .ok (.iload 8, 2) := by decide +kernel
theorem dX0_measure_159 : decode cX0_measure 159 = .ok (.iload 9, 2) := by decide +kernel
theorem dX0_measure_161 : decode cX0_measure 161 = .ok (.if_icmp .eq 35, 3) := by decide +kernel
theorem dX0_measure_164 : decode cX0_measure 164 = .ok (.aload_n 0, 1) := by decide +kernel
theorem dX0_measure_165 : decode cX0_measure 165 = .ok (.iload 6, 2) := by decide +kernel
theorem dX0_measure_167 : decode cX0_measure 167 = .ok (.ifCond .eq 12, 3) := by decide +kernel
theorem dX0_measure_170 : decode cX0_measure 170 = .ok (.aload_n 1, 1) := by decide +kernel
theorem dX0_measure_171 : decode cX0_measure 171 = .ok (.getfield 65, 3) := by decide +kernel
theorem dX0_measure_174 : decode cX0_measure 174 = .ok (.iload_n 3, 1) := by decide +kernel
theorem dX0_measure_175 : decode cX0_measure 175 = .ok (.iaload, 1) := by decide +kernel
theorem dX0_measure_176 : decode cX0_measure 176 = .ok (.goto 10, 3) := by decide +kernel
theorem dX0_measure_179 : decode cX0_measure 179 = .ok (.aload_n 2, 1) := by decide +kernel
theorem dX0_measure_180 : decode cX0_measure 180 = .ok (.getfield 65, 3) := by decide +kernel
theorem dX0_measure_183 : decode cX0_measure 183 = .ok (.iload 4, 2) := by decide +kernel
theorem dX0_measure_185 : decode cX0_measure 185 = .ok (.iaload, 1) := by decide +kernel
theorem dX0_measure_186 : decode cX0_measure 186 = .ok (.iload 8, 2) := by decide +kernel
theorem dX0_measure_188 : decode cX0_measure 188 = .ok (.iload 9, 2) := by decide +kernel
theorem dX0_measure_190 : decode cX0_measure 190 = .ok (.iload_n 3, 1) := by decide +kernel
theorem dX0_measure_191 : decode cX0_measure 191 = .ok (.iload 4, 2) := by decide +kernel
theorem dX0_measure_193 : decode cX0_measure 193 = .ok (.invokevirtual 69, 3) := by decide +kernel
theorem dX0_measure_196 : decode cX0_measure 196 = .ok (.iload_n 3, 1) := by decide +kernel
theorem dX0_measure_197 : decode cX0_measure 197 = .ok (.iload 6, 2) := by decide +kernel
theorem dX0_measure_199 : decode cX0_measure 199 = .ok (.ifCond .eq 7, 3) := by decide +kernel
theorem dX0_measure_202 : decode cX0_measure 202 = .ok (.iconst 1, 1) := by decide +kernel
theorem dX0_measure_203 : decode cX0_measure 203 = .ok (.goto 4, 3) := by decide +kernel
theorem dX0_measure_206 : decode cX0_measure 206 = .ok (.iconst 0, 1) := by decide +kernel
theorem dX0_measure_207 : decode cX0_measure 207 = .ok (.iadd, 1) := by decide +kernel
theorem dX0_measure_208 : decode cX0_measure 208 = .ok (.istore_n 3, 1) := by decide +kernel
theorem dX0_measure_209 : decode cX0_measure 209 = .ok (.iload 4, 2) := by decide +kernel
theorem dX0_measure_211 : decode cX0_measure 211 = .ok (.iload 7, 2) := by decide +kernel
theorem dX0_measure_213 : decode cX0_measure 213 = .ok (.ifCond .eq 7, 3) := by decide +kernel
theorem dX0_measure_216 : decode cX0_measure 216 = .ok (.iconst 1, 1) := by decide +kernel
theorem dX0_measure_217 : decode cX0_measure 217 = .ok (.goto 4, 3) := by decide +kernel
theorem dX0_measure_220 : decode cX0_measure 220 = .ok (.iconst 0, 1) := by decide +kernel
theorem dX0_measure_221 : decode cX0_measure 221 = .ok (.iadd, 1) := by decide +kernel
theorem dX0_measure_222 : decode cX0_measure 222 = .ok (.istore 4, 2) := by decide +kernel
theorem dX0_measure_224 : decode cX0_measure 224 = .ok (.iinc 5 1, 3) := by decide +kernel
theorem dX0_measure_227 : decode cX0_measure 227 = .ok (.goto (-209), 3) := by decide +kernel
theorem dX0_measure_230 : decode cX0_measure 230 = .ok (.return_, 1) := by decide +kernel
def P_X0_measure_18 (sh : gS) (Q : Option gV → gS → gM → Prop) (x0 x1 x2 x3 x4 x5 : Int) (M : gM) : Prop := gA (gr 1 25) yX0_measure cX0_measure 10 none Q (0, 0) 18 [(4, x0), (4, x1), (4, x2), (0, x3), (0, x4), (0, x5), (9, 0), (9, 0), (9, 0), (9, 0)] [] sh M
def P_X0_measure_42 (sh : gS) (Q : Option gV → gS → gM → Prop) (x0 x1 x2 x3 x4 x5 : Int) (M : gM) : Prop := gA (gr 1 25) yX0_measure cX0_measure 10 none Q (0, 0) 42 [(4, x0), (4, x1), (4, x2), (0, x3), (0, x4), (0, x5), (9, 0), (9, 0), (9, 0), (9, 0)] [] sh M
def P_X0_measure_80 (sh : gS) (Q : Option gV → gS → gM → Prop) (x0 x1 x2 x3 x4 x5 s0 : Int) (M : gM) : Prop := gA (gr 1 25) yX0_measure cX0_measure 10 none Q (0, 0) 80 [(4, x0), (4, x1), (4, x2), (0, x3), (0, x4), (0, x5), (9, 0), (9, 0), (9, 0), (9, 0)] [(0, s0)] sh M
def P_X0_measure_120 (sh : gS) (Q : Option gV → gS → gM → Prop) (x0 x1 x2 x3 x4 x5 x6 s0 : Int) (M : gM) : Prop := gA (gr 1 25) yX0_measure cX0_measure 10 none Q (0, 0) 120 [(4, x0), (4, x1), (4, x2), (0, x3), (0, x4), (0, x5), (0, x6), (9, 0), (9, 0), (9, 0)] [(0, s0)] sh M
def P_X0_measure_155 (sh : gS) (Q : Option gV → gS → gM → Prop) (x0 x1 x2 x3 x4 x5 x6 x7 x8 s0 : Int) (M : gM) : Prop := gA (gr 1 25) yX0_measure cX0_measure 10 none Q (0, 0) 155 [(4, x0), (4, x1), (4, x2), (0, x3), (0, x4), (0, x5), (0, x6), (0, x7), (0, x8), (9, 0)] [(0, s0)] sh M
def P_X0_measure_196 (sh : gS) (Q : Option gV → gS → gM → Prop) (x0 x1 x2 x3 x4 x5 x6 x7 x8 x9 : Int) (M : gM) : Prop := gA (gr 1 25) yX0_measure cX0_measure 10 none Q (0, 0) 196 [(4, x0), (4, x1), (4, x2), (0, x3), (0, x4), (0, x5), (0, x6), (0, x7), (0, x8), (0, x9)] [] sh M
theorem w_X0_measure_18 {sh : gS} {Q : Option gV → gS → gM → Prop} {x0 x1 x2 x3 x4 x5 : Int} {M : gM} (hOK : gOK sh M) (h : (if x5 < 32 then
    ((gsh sh x1 = some (0, 11) ∧ x1 < 758) ∧
      (if x3 < (M x1 2) then
        (P_X0_measure_42 sh Q x0 x1 x2 x3 x4 x5 M)
      else
        ((gsh sh x2 = some (0, 11) ∧ x2 < 758) ∧
          (if x4 < (M x2 2) then
            (P_X0_measure_42 sh Q x0 x1 x2 x3 x4 x5 M)
          else
            (Q none sh M)))))
  else
    (Q none sh M))) : P_X0_measure_18 sh Q x0 x1 x2 x3 x4 x5 M := by
  unfold P_X0_measure_18
  refine g_iload (q0 := 20) (j := 5) rfl dX0_measure_18 rfl ?_
  refine g_bipush (q0 := 22) rfl dX0_measure_20 (k := ?_)
  refine g_icmp_ge (q0 := 25) (tgt := 230) rfl dX0_measure_22 (by decide) (fun h22 => ?_) (fun h22 => ?_)
  · replace h := wI_neg (Int.not_lt.mpr h22) h
    exact g_return dX0_measure_230 rfl ⟨Nat.zero_le _, Nat.zero_le _⟩ h
  · replace h := wI_pos h22 h
    refine g_iload_n (q0 := 26) (j := 3) rfl dX0_measure_25 rfl ?_
    refine g_aload_n (q0 := 27) (j := 1) rfl dX0_measure_26 rfl ?_
    obtain ⟨g1, h⟩ := h
    refine g_getf (q0 := 30) (t := 0) (fi := 2) rfl rfl ff_X0_62 dX0_measure_27 rfl g1.1 ?_
    refine g_icmp_lt (q0 := 33) (tgt := 42) rfl dX0_measure_30 (by decide) (fun h30 => ?_) (fun h30 => ?_)
    · replace h := wI_pos h30 h
      exact h
    · replace h := wI_neg (Int.not_lt.mpr h30) h
      refine g_iload (q0 := 35) (j := 4) rfl dX0_measure_33 rfl ?_
      refine g_aload_n (q0 := 36) (j := 2) rfl dX0_measure_35 rfl ?_
      obtain ⟨g2, h⟩ := h
      refine g_getf (q0 := 39) (t := 0) (fi := 2) rfl rfl ff_X0_62 dX0_measure_36 rfl g2.1 ?_
      refine g_icmp_ge (q0 := 42) (tgt := 230) rfl dX0_measure_39 (by decide) (fun h39 => ?_) (fun h39 => ?_)
      · replace h := wI_neg (Int.not_lt.mpr h39) h
        exact g_return dX0_measure_230 rfl ⟨Nat.zero_le _, Nat.zero_le _⟩ h
      · replace h := wI_pos h39 h
        exact h
theorem w_X0_measure_42 {sh : gS} {Q : Option gV → gS → gM → Prop} {x0 x1 x2 x3 x4 x5 : Int} {M : gM} (hOK : gOK sh M) (h : ((gsh sh x2 = some (0, 11) ∧ x2 < 758) ∧
    (if x4 < (M x2 2) then
      ((gsh sh x1 = some (0, 11) ∧ x1 < 758) ∧
        (if x3 < (M x1 2) then
          (∃ n5 : Nat, gsh sh (x1 + 1) = some (1, n5) ∧
            ((0 ≤ x3 ∧ x3 < (n5 : Int)) ∧
              (∃ n7 : Nat, gsh sh (x2 + 1) = some (1, n7) ∧
                ((0 ≤ x4 ∧ x4 < (n7 : Int)) ∧
                  (if (M (x2 + 1) x4) < (M (x1 + 1) x3) then
                    (P_X0_measure_80 sh Q x0 x1 x2 x3 x4 x5 0 M)
                  else
                    (P_X0_measure_80 sh Q x0 x1 x2 x3 x4 x5 1 M))))))
        else
          (P_X0_measure_80 sh Q x0 x1 x2 x3 x4 x5 0 M)))
    else
      (P_X0_measure_80 sh Q x0 x1 x2 x3 x4 x5 1 M)))) : P_X0_measure_42 sh Q x0 x1 x2 x3 x4 x5 M := by
  unfold P_X0_measure_42
  refine g_iload (q0 := 44) (j := 4) rfl dX0_measure_42 rfl ?_
  refine g_aload_n (q0 := 45) (j := 2) rfl dX0_measure_44 rfl ?_
  obtain ⟨g3, h⟩ := h
  refine g_getf (q0 := 48) (t := 0) (fi := 2) rfl rfl ff_X0_62 dX0_measure_45 rfl g3.1 ?_
  refine g_icmp_ge (q0 := 51) (tgt := 75) rfl dX0_measure_48 (by decide) (fun h48 => ?_) (fun h48 => ?_)
  · replace h := wI_neg (Int.not_lt.mpr h48) h
    refine g_iconst (q0 := 76) rfl dX0_measure_75 (k := ?_)
    refine g_goto (tgt := 80) dX0_measure_76 (by decide) ?_
    exact h
  · replace h := wI_pos h48 h
    refine g_iload_n (q0 := 52) (j := 3) rfl dX0_measure_51 rfl ?_
    refine g_aload_n (q0 := 53) (j := 1) rfl dX0_measure_52 rfl ?_
    obtain ⟨g4, h⟩ := h
    refine g_getf (q0 := 56) (t := 0) (fi := 2) rfl rfl ff_X0_62 dX0_measure_53 rfl g4.1 ?_
    refine g_icmp_ge (q0 := 59) (tgt := 79) rfl dX0_measure_56 (by decide) (fun h56 => ?_) (fun h56 => ?_)
    · replace h := wI_neg (Int.not_lt.mpr h56) h
      refine g_iconst (q0 := 80) rfl dX0_measure_79 (k := ?_)
      exact h
    · replace h := wI_pos h56 h
      refine g_aload_n (q0 := 60) (j := 1) rfl dX0_measure_59 rfl ?_
      refine g_getp (q0 := 63) (b := (x1 + 1)) rfl ff_X0_65 dX0_measure_60 rfl hOK g4.2 g4.1 rfl rfl ?_
      refine g_iload_n (q0 := 64) (j := 3) rfl dX0_measure_63 rfl ?_
      obtain ⟨n5, sn5, h⟩ := h
      obtain ⟨g6, h⟩ := h
      refine g_iald (q0 := 65) rfl dX0_measure_64 sn5 g6.1 g6.2 ?_
      refine g_aload_n (q0 := 66) (j := 2) rfl dX0_measure_65 rfl ?_
      refine g_getp (q0 := 69) (b := (x2 + 1)) rfl ff_X0_65 dX0_measure_66 rfl hOK g3.2 g3.1 rfl rfl ?_
      refine g_iload (q0 := 71) (j := 4) rfl dX0_measure_69 rfl ?_
      obtain ⟨n7, sn7, h⟩ := h
      obtain ⟨g8, h⟩ := h
      refine g_iald (q0 := 72) rfl dX0_measure_71 sn7 g8.1 g8.2 ?_
      refine g_icmp_gt (q0 := 75) (tgt := 79) rfl dX0_measure_72 (by decide) (fun h72 => ?_) (fun h72 => ?_)
      · replace h := wI_pos h72 h
        refine g_iconst (q0 := 80) rfl dX0_measure_79 (k := ?_)
        exact h
      · replace h := wI_neg (Int.not_lt.mpr h72) h
        refine g_iconst (q0 := 76) rfl dX0_measure_75 (k := ?_)
        refine g_goto (tgt := 80) dX0_measure_76 (by decide) ?_
        exact h
theorem w_X0_measure_80 {sh : gS} {Q : Option gV → gS → gM → Prop} {x0 x1 x2 x3 x4 x5 s0 : Int} {M : gM} (hOK : gOK sh M) (h : ((gsh sh x1 = some (0, 11) ∧ x1 < 758) ∧
    (if x3 < (M x1 2) then
      ((gsh sh x2 = some (0, 11) ∧ x2 < 758) ∧
        (if x4 < (M x2 2) then
          (∃ n11 : Nat, gsh sh (x2 + 1) = some (1, n11) ∧
            ((0 ≤ x4 ∧ x4 < (n11 : Int)) ∧
              (∃ n13 : Nat, gsh sh (x1 + 1) = some (1, n13) ∧
                ((0 ≤ x3 ∧ x3 < (n13 : Int)) ∧
                  (if (M (x1 + 1) x3) < (M (x2 + 1) x4) then
                    (P_X0_measure_120 sh Q x0 x1 x2 x3 x4 x5 s0 0 M)
                  else
                    (P_X0_measure_120 sh Q x0 x1 x2 x3 x4 x5 s0 1 M))))))
        else
          (P_X0_measure_120 sh Q x0 x1 x2 x3 x4 x5 s0 0 M)))
    else
      (P_X0_measure_120 sh Q x0 x1 x2 x3 x4 x5 s0 1 M)))) : P_X0_measure_80 sh Q x0 x1 x2 x3 x4 x5 s0 M := by
  unfold P_X0_measure_80
  refine g_istore (q0 := 82) (j := 6) (lv2 := [_, _, _, _, _, _, _, _, _, _]) rfl dX0_measure_80 (by decide) rfl rfl ?_
  refine g_iload_n (q0 := 83) (j := 3) rfl dX0_measure_82 rfl ?_
  refine g_aload_n (q0 := 84) (j := 1) rfl dX0_measure_83 rfl ?_
  obtain ⟨g9, h⟩ := h
  refine g_getf (q0 := 87) (t := 0) (fi := 2) rfl rfl ff_X0_62 dX0_measure_84 rfl g9.1 ?_
  refine g_icmp_ge (q0 := 90) (tgt := 115) rfl dX0_measure_87 (by decide) (fun h87 => ?_) (fun h87 => ?_)
  · replace h := wI_neg (Int.not_lt.mpr h87) h
    refine g_iconst (q0 := 116) rfl dX0_measure_115 (k := ?_)
    refine g_goto (tgt := 120) dX0_measure_116 (by decide) ?_
    exact h
  · replace h := wI_pos h87 h
    refine g_iload (q0 := 92) (j := 4) rfl dX0_measure_90 rfl ?_
    refine g_aload_n (q0 := 93) (j := 2) rfl dX0_measure_92 rfl ?_
    obtain ⟨g10, h⟩ := h
    refine g_getf (q0 := 96) (t := 0) (fi := 2) rfl rfl ff_X0_62 dX0_measure_93 rfl g10.1 ?_
    refine g_icmp_ge (q0 := 99) (tgt := 119) rfl dX0_measure_96 (by decide) (fun h96 => ?_) (fun h96 => ?_)
    · replace h := wI_neg (Int.not_lt.mpr h96) h
      refine g_iconst (q0 := 120) rfl dX0_measure_119 (k := ?_)
      exact h
    · replace h := wI_pos h96 h
      refine g_aload_n (q0 := 100) (j := 2) rfl dX0_measure_99 rfl ?_
      refine g_getp (q0 := 103) (b := (x2 + 1)) rfl ff_X0_65 dX0_measure_100 rfl hOK g10.2 g10.1 rfl rfl ?_
      refine g_iload (q0 := 105) (j := 4) rfl dX0_measure_103 rfl ?_
      obtain ⟨n11, sn11, h⟩ := h
      obtain ⟨g12, h⟩ := h
      refine g_iald (q0 := 106) rfl dX0_measure_105 sn11 g12.1 g12.2 ?_
      refine g_aload_n (q0 := 107) (j := 1) rfl dX0_measure_106 rfl ?_
      refine g_getp (q0 := 110) (b := (x1 + 1)) rfl ff_X0_65 dX0_measure_107 rfl hOK g9.2 g9.1 rfl rfl ?_
      refine g_iload_n (q0 := 111) (j := 3) rfl dX0_measure_110 rfl ?_
      obtain ⟨n13, sn13, h⟩ := h
      obtain ⟨g14, h⟩ := h
      refine g_iald (q0 := 112) rfl dX0_measure_111 sn13 g14.1 g14.2 ?_
      refine g_icmp_gt (q0 := 115) (tgt := 119) rfl dX0_measure_112 (by decide) (fun h112 => ?_) (fun h112 => ?_)
      · replace h := wI_pos h112 h
        refine g_iconst (q0 := 120) rfl dX0_measure_119 (k := ?_)
        exact h
      · replace h := wI_neg (Int.not_lt.mpr h112) h
        refine g_iconst (q0 := 116) rfl dX0_measure_115 (k := ?_)
        refine g_goto (tgt := 120) dX0_measure_116 (by decide) ?_
        exact h
theorem w_X0_measure_120 {sh : gS} {Q : Option gV → gS → gM → Prop} {x0 x1 x2 x3 x4 x5 x6 s0 : Int} {M : gM} (hOK : gOK sh M) (h : (if x6 = 0 then
    (if s0 = 0 then
      (P_X0_measure_155 sh Q x0 x1 x2 x3 x4 x5 x6 s0 0 0 M)
    else
      ((gsh sh x2 = some (0, 11) ∧ x2 < 758) ∧
        (∃ n16 : Nat, gsh sh (x2 + 2) = some (1, n16) ∧
          ((0 ≤ x4 ∧ x4 < (n16 : Int)) ∧
            (P_X0_measure_155 sh Q x0 x1 x2 x3 x4 x5 x6 s0 0 (M (x2 + 2) x4) M)))))
  else
    ((gsh sh x1 = some (0, 11) ∧ x1 < 758) ∧
      (∃ n19 : Nat, gsh sh (x1 + 2) = some (1, n19) ∧
        ((0 ≤ x3 ∧ x3 < (n19 : Int)) ∧
          (if s0 = 0 then
            (P_X0_measure_155 sh Q x0 x1 x2 x3 x4 x5 x6 s0 (M (x1 + 2) x3) 0 M)
          else
            ((gsh sh x2 = some (0, 11) ∧ x2 < 758) ∧
              (∃ n22 : Nat, gsh sh (x2 + 2) = some (1, n22) ∧
                ((0 ≤ x4 ∧ x4 < (n22 : Int)) ∧
                  (P_X0_measure_155 sh Q x0 x1 x2 x3 x4 x5 x6 s0 (M (x1 + 2) x3) (M (x2 + 2) x4) M)))))))))) : P_X0_measure_120 sh Q x0 x1 x2 x3 x4 x5 x6 s0 M := by
  unfold P_X0_measure_120
  refine g_istore (q0 := 122) (j := 7) (lv2 := [_, _, _, _, _, _, _, _, _, _]) rfl dX0_measure_120 (by decide) rfl rfl ?_
  refine g_iload (q0 := 124) (j := 6) rfl dX0_measure_122 rfl ?_
  refine g_if_eq (q0 := 127) (tgt := 136) rfl dX0_measure_124 (by decide) (fun h124 => ?_) (fun h124 => ?_)
  · replace h := wI_pos h124 h
    refine g_iconst (q0 := 137) rfl dX0_measure_136 (k := ?_)
    refine g_istore (q0 := 139) (j := 8) (lv2 := [_, _, _, _, _, _, _, _, _, _]) rfl dX0_measure_137 (by decide) rfl rfl ?_
    refine g_iload (q0 := 141) (j := 7) rfl dX0_measure_139 rfl ?_
    refine g_if_eq (q0 := 144) (tgt := 154) rfl dX0_measure_141 (by decide) (fun h141 => ?_) (fun h141 => ?_)
    · replace h := wI_pos h141 h
      refine g_iconst (q0 := 155) rfl dX0_measure_154 (k := ?_)
      exact h
    · replace h := wI_neg h141 h
      refine g_aload_n (q0 := 145) (j := 2) rfl dX0_measure_144 rfl ?_
      obtain ⟨g15, h⟩ := h
      refine g_getp (q0 := 148) (b := (x2 + 2)) rfl ff_X0_66 dX0_measure_145 rfl hOK g15.2 g15.1 rfl rfl ?_
      refine g_iload (q0 := 150) (j := 4) rfl dX0_measure_148 rfl ?_
      obtain ⟨n16, sn16, h⟩ := h
      obtain ⟨g17, h⟩ := h
      refine g_iald (q0 := 151) rfl dX0_measure_150 sn16 g17.1 g17.2 ?_
      refine g_goto (tgt := 155) dX0_measure_151 (by decide) ?_
      exact h
  · replace h := wI_neg h124 h
    refine g_aload_n (q0 := 128) (j := 1) rfl dX0_measure_127 rfl ?_
    obtain ⟨g18, h⟩ := h
    refine g_getp (q0 := 131) (b := (x1 + 2)) rfl ff_X0_66 dX0_measure_128 rfl hOK g18.2 g18.1 rfl rfl ?_
    refine g_iload_n (q0 := 132) (j := 3) rfl dX0_measure_131 rfl ?_
    obtain ⟨n19, sn19, h⟩ := h
    obtain ⟨g20, h⟩ := h
    refine g_iald (q0 := 133) rfl dX0_measure_132 sn19 g20.1 g20.2 ?_
    refine g_goto (tgt := 137) dX0_measure_133 (by decide) ?_
    refine g_istore (q0 := 139) (j := 8) (lv2 := [_, _, _, _, _, _, _, _, _, _]) rfl dX0_measure_137 (by decide) rfl rfl ?_
    refine g_iload (q0 := 141) (j := 7) rfl dX0_measure_139 rfl ?_
    refine g_if_eq (q0 := 144) (tgt := 154) rfl dX0_measure_141 (by decide) (fun h141 => ?_) (fun h141 => ?_)
    · replace h := wI_pos h141 h
      refine g_iconst (q0 := 155) rfl dX0_measure_154 (k := ?_)
      exact h
    · replace h := wI_neg h141 h
      refine g_aload_n (q0 := 145) (j := 2) rfl dX0_measure_144 rfl ?_
      obtain ⟨g21, h⟩ := h
      refine g_getp (q0 := 148) (b := (x2 + 2)) rfl ff_X0_66 dX0_measure_145 rfl hOK g21.2 g21.1 rfl rfl ?_
      refine g_iload (q0 := 150) (j := 4) rfl dX0_measure_148 rfl ?_
      obtain ⟨n22, sn22, h⟩ := h
      obtain ⟨g23, h⟩ := h
      refine g_iald (q0 := 151) rfl dX0_measure_150 sn22 g23.1 g23.2 ?_
      refine g_goto (tgt := 155) dX0_measure_151 (by decide) ?_
      exact h
theorem w_X0_measure_155 {sh : gS} {Q : Option gV → gS → gM → Prop} {x0 x1 x2 x3 x4 x5 x6 x7 x8 s0 : Int} {M : gM} (hOK : gOK sh M) (h : (if x8 = s0 then
    (P_X0_measure_196 sh Q x0 x1 x2 x3 x4 x5 x6 x7 x8 s0 M)
  else
    (if x6 = 0 then
      ((gsh sh x2 = some (0, 11) ∧ x2 < 758) ∧
        (∃ n25 : Nat, gsh sh (x2 + 1) = some (1, n25) ∧
          ((0 ≤ x4 ∧ x4 < (n25 : Int)) ∧
            ((gsh sh x0 = some (0, 1) ∧ x0 < 758) ∧
              (∃ P193 : Option gV → gM → Prop, gC (gr 0 0) yX0_add cX0_add 6 none [(4, x0), (0, (M (x2 + 1) x4)), (0, x8), (0, s0), (0, x3), (0, x4)] sh M (gPm sh P193) ∧ ∀ (r193 : Option gV) (M193 : gM), P193 r193 M193 → r193 = none ∧ gOK sh M193 ∧
                (P_X0_measure_196 sh Q x0 x1 x2 x3 x4 x5 x6 x7 x8 s0 M193))))))
    else
      ((gsh sh x1 = some (0, 11) ∧ x1 < 758) ∧
        (∃ n30 : Nat, gsh sh (x1 + 1) = some (1, n30) ∧
          ((0 ≤ x3 ∧ x3 < (n30 : Int)) ∧
            ((gsh sh x0 = some (0, 1) ∧ x0 < 758) ∧
              (∃ P193 : Option gV → gM → Prop, gC (gr 0 0) yX0_add cX0_add 6 none [(4, x0), (0, (M (x1 + 1) x3)), (0, x8), (0, s0), (0, x3), (0, x4)] sh M (gPm sh P193) ∧ ∀ (r193 : Option gV) (M193 : gM), P193 r193 M193 → r193 = none ∧ gOK sh M193 ∧
                (P_X0_measure_196 sh Q x0 x1 x2 x3 x4 x5 x6 x7 x8 s0 M193))))))))) : P_X0_measure_155 sh Q x0 x1 x2 x3 x4 x5 x6 x7 x8 s0 M := by
  unfold P_X0_measure_155
  refine g_istore (q0 := 157) (j := 9) (lv2 := [_, _, _, _, _, _, _, _, _, _]) rfl dX0_measure_155 (by decide) rfl rfl ?_
  refine g_iload (q0 := 159) (j := 8) rfl dX0_measure_157 rfl ?_
  refine g_iload (q0 := 161) (j := 9) rfl dX0_measure_159 rfl ?_
  refine g_icmp_eq (q0 := 164) (tgt := 196) rfl dX0_measure_161 (by decide) (fun h161 => ?_) (fun h161 => ?_)
  · replace h := wI_pos h161 h
    exact h
  · replace h := wI_neg h161 h
    refine g_aload_n (q0 := 165) (j := 0) rfl dX0_measure_164 rfl ?_
    refine g_iload (q0 := 167) (j := 6) rfl dX0_measure_165 rfl ?_
    refine g_if_eq (q0 := 170) (tgt := 179) rfl dX0_measure_167 (by decide) (fun h167 => ?_) (fun h167 => ?_)
    · replace h := wI_pos h167 h
      refine g_aload_n (q0 := 180) (j := 2) rfl dX0_measure_179 rfl ?_
      obtain ⟨g24, h⟩ := h
      refine g_getp (q0 := 183) (b := (x2 + 1)) rfl ff_X0_65 dX0_measure_180 rfl hOK g24.2 g24.1 rfl rfl ?_
      refine g_iload (q0 := 185) (j := 4) rfl dX0_measure_183 rfl ?_
      obtain ⟨n25, sn25, h⟩ := h
      obtain ⟨g26, h⟩ := h
      refine g_iald (q0 := 186) rfl dX0_measure_185 sn25 g26.1 g26.2 ?_
      refine g_iload (q0 := 188) (j := 8) rfl dX0_measure_186 rfl ?_
      refine g_iload (q0 := 190) (j := 9) rfl dX0_measure_188 rfl ?_
      refine g_iload_n (q0 := 191) (j := 3) rfl dX0_measure_190 rfl ?_
      refine g_iload (q0 := 193) (j := 4) rfl dX0_measure_191 rfl ?_
      obtain ⟨g27, h⟩ := h
      obtain ⟨P193, e193, h⟩ := h
      refine g_callVm (as := [_, _, _, _, _]) (rest := []) mt_X0_add mi_X0_add se_X0_add ml_X0_69 dX0_measure_193 (q0 := 196) rfl rfl g27.1 rfl rfl e193 rfl ⟨by decide, by decide⟩ (Nat.le_of_ble_eq_true rfl) ⟨Nat.zero_le _, Nat.zero_le _⟩ (fun r193 M193 hP193 hw193 hMw193 => ?_)
      obtain ⟨hr193, hOK28, h⟩ := h r193 M193 hP193
      subst hr193
      exact h
    · replace h := wI_neg h167 h
      refine g_aload_n (q0 := 171) (j := 1) rfl dX0_measure_170 rfl ?_
      obtain ⟨g29, h⟩ := h
      refine g_getp (q0 := 174) (b := (x1 + 1)) rfl ff_X0_65 dX0_measure_171 rfl hOK g29.2 g29.1 rfl rfl ?_
      refine g_iload_n (q0 := 175) (j := 3) rfl dX0_measure_174 rfl ?_
      obtain ⟨n30, sn30, h⟩ := h
      obtain ⟨g31, h⟩ := h
      refine g_iald (q0 := 176) rfl dX0_measure_175 sn30 g31.1 g31.2 ?_
      refine g_goto (tgt := 186) dX0_measure_176 (by decide) ?_
      refine g_iload (q0 := 188) (j := 8) rfl dX0_measure_186 rfl ?_
      refine g_iload (q0 := 190) (j := 9) rfl dX0_measure_188 rfl ?_
      refine g_iload_n (q0 := 191) (j := 3) rfl dX0_measure_190 rfl ?_
      refine g_iload (q0 := 193) (j := 4) rfl dX0_measure_191 rfl ?_
      obtain ⟨g32, h⟩ := h
      obtain ⟨P193, e193, h⟩ := h
      refine g_callVm (as := [_, _, _, _, _]) (rest := []) mt_X0_add mi_X0_add se_X0_add ml_X0_69 dX0_measure_193 (q0 := 196) rfl rfl g32.1 rfl rfl e193 rfl ⟨by decide, by decide⟩ (Nat.le_of_ble_eq_true rfl) ⟨Nat.zero_le _, Nat.zero_le _⟩ (fun r193 M193 hP193 hw193 hMw193 => ?_)
      obtain ⟨hr193, hOK33, h⟩ := h r193 M193 hP193
      subst hr193
      exact h
theorem w_X0_measure_196 {sh : gS} {Q : Option gV → gS → gM → Prop} {x0 x1 x2 x3 x4 x5 x6 x7 x8 x9 : Int} {M : gM} (hOK : gOK sh M) (h : (if x6 = 0 then
    (if x7 = 0 then
      (P_X0_measure_18 sh Q x0 x1 x2 (gw32 (x3 + (0 : Int))) (gw32 (x4 + (0 : Int))) (gw32 (x5 + 1)) M)
    else
      (P_X0_measure_18 sh Q x0 x1 x2 (gw32 (x3 + (0 : Int))) (gw32 (x4 + (1 : Int))) (gw32 (x5 + 1)) M))
  else
    (if x7 = 0 then
      (P_X0_measure_18 sh Q x0 x1 x2 (gw32 (x3 + (1 : Int))) (gw32 (x4 + (0 : Int))) (gw32 (x5 + 1)) M)
    else
      (P_X0_measure_18 sh Q x0 x1 x2 (gw32 (x3 + (1 : Int))) (gw32 (x4 + (1 : Int))) (gw32 (x5 + 1)) M)))) : P_X0_measure_196 sh Q x0 x1 x2 x3 x4 x5 x6 x7 x8 x9 M := by
  unfold P_X0_measure_196
  refine g_iload_n (q0 := 197) (j := 3) rfl dX0_measure_196 rfl ?_
  refine g_iload (q0 := 199) (j := 6) rfl dX0_measure_197 rfl ?_
  refine g_if_eq (q0 := 202) (tgt := 206) rfl dX0_measure_199 (by decide) (fun h199 => ?_) (fun h199 => ?_)
  · replace h := wI_pos h199 h
    refine g_iconst (q0 := 207) rfl dX0_measure_206 (k := ?_)
    refine g_iaddw (q0 := 208) rfl dX0_measure_207 ?_
    refine g_istore_n (q0 := 209) (j := 3) (lv2 := [_, _, _, _, _, _, _, _, _, _]) rfl dX0_measure_208 (by decide) rfl rfl ?_
    refine g_iload (q0 := 211) (j := 4) rfl dX0_measure_209 rfl ?_
    refine g_iload (q0 := 213) (j := 7) rfl dX0_measure_211 rfl ?_
    refine g_if_eq (q0 := 216) (tgt := 220) rfl dX0_measure_213 (by decide) (fun h213 => ?_) (fun h213 => ?_)
    · replace h := wI_pos h213 h
      refine g_iconst (q0 := 221) rfl dX0_measure_220 (k := ?_)
      refine g_iaddw (q0 := 222) rfl dX0_measure_221 ?_
      refine g_istore (q0 := 224) (j := 4) (lv2 := [_, _, _, _, _, _, _, _, _, _]) rfl dX0_measure_222 (by decide) rfl rfl ?_
      refine g_iincw (q0 := 227) (lv2 := [_, _, _, _, _, _, _, _, _, _]) rfl dX0_measure_224 rfl (by decide) rfl rfl ?_
      refine g_goto (tgt := 18) dX0_measure_227 (by decide) ?_
      refine gA_jk (lv1 := [_, _, _, _, _, _, (9, 0), (9, 0), (9, 0), (9, 0)]) ⟨.inl rfl, .inl rfl, .inl rfl, .inl rfl, .inl rfl, .inl rfl, .inr rfl, .inr rfl, .inr rfl, .inr rfl, trivial⟩ ?_
      exact h
    · replace h := wI_neg h213 h
      refine g_iconst (q0 := 217) rfl dX0_measure_216 (k := ?_)
      refine g_goto (tgt := 221) dX0_measure_217 (by decide) ?_
      refine g_iaddw (q0 := 222) rfl dX0_measure_221 ?_
      refine g_istore (q0 := 224) (j := 4) (lv2 := [_, _, _, _, _, _, _, _, _, _]) rfl dX0_measure_222 (by decide) rfl rfl ?_
      refine g_iincw (q0 := 227) (lv2 := [_, _, _, _, _, _, _, _, _, _]) rfl dX0_measure_224 rfl (by decide) rfl rfl ?_
      refine g_goto (tgt := 18) dX0_measure_227 (by decide) ?_
      refine gA_jk (lv1 := [_, _, _, _, _, _, (9, 0), (9, 0), (9, 0), (9, 0)]) ⟨.inl rfl, .inl rfl, .inl rfl, .inl rfl, .inl rfl, .inl rfl, .inr rfl, .inr rfl, .inr rfl, .inr rfl, trivial⟩ ?_
      exact h
  · replace h := wI_neg h199 h
    refine g_iconst (q0 := 203) rfl dX0_measure_202 (k := ?_)
    refine g_goto (tgt := 207) dX0_measure_203 (by decide) ?_
    refine g_iaddw (q0 := 208) rfl dX0_measure_207 ?_
    refine g_istore_n (q0 := 209) (j := 3) (lv2 := [_, _, _, _, _, _, _, _, _, _]) rfl dX0_measure_208 (by decide) rfl rfl ?_
    refine g_iload (q0 := 211) (j := 4) rfl dX0_measure_209 rfl ?_
    refine g_iload (q0 := 213) (j := 7) rfl dX0_measure_211 rfl ?_
    refine g_if_eq (q0 := 216) (tgt := 220) rfl dX0_measure_213 (by decide) (fun h213 => ?_) (fun h213 => ?_)
    · replace h := wI_pos h213 h
      refine g_iconst (q0 := 221) rfl dX0_measure_220 (k := ?_)
      refine g_iaddw (q0 := 222) rfl dX0_measure_221 ?_
      refine g_istore (q0 := 224) (j := 4) (lv2 := [_, _, _, _, _, _, _, _, _, _]) rfl dX0_measure_222 (by decide) rfl rfl ?_
      refine g_iincw (q0 := 227) (lv2 := [_, _, _, _, _, _, _, _, _, _]) rfl dX0_measure_224 rfl (by decide) rfl rfl ?_
      refine g_goto (tgt := 18) dX0_measure_227 (by decide) ?_
      refine gA_jk (lv1 := [_, _, _, _, _, _, (9, 0), (9, 0), (9, 0), (9, 0)]) ⟨.inl rfl, .inl rfl, .inl rfl, .inl rfl, .inl rfl, .inl rfl, .inr rfl, .inr rfl, .inr rfl, .inr rfl, trivial⟩ ?_
      exact h
    · replace h := wI_neg h213 h
      refine g_iconst (q0 := 217) rfl dX0_measure_216 (k := ?_)
      refine g_goto (tgt := 221) dX0_measure_217 (by decide) ?_
      refine g_iaddw (q0 := 222) rfl dX0_measure_221 ?_
      refine g_istore (q0 := 224) (j := 4) (lv2 := [_, _, _, _, _, _, _, _, _, _]) rfl dX0_measure_222 (by decide) rfl rfl ?_
      refine g_iincw (q0 := 227) (lv2 := [_, _, _, _, _, _, _, _, _, _]) rfl dX0_measure_224 rfl (by decide) rfl rfl ?_
      refine g_goto (tgt := 18) dX0_measure_227 (by decide) ?_
      refine gA_jk (lv1 := [_, _, _, _, _, _, (9, 0), (9, 0), (9, 0), (9, 0)]) ⟨.inl rfl, .inl rfl, .inl rfl, .inl rfl, .inl rfl, .inl rfl, .inr rfl, .inr rfl, .inr rfl, .inr rfl, trivial⟩ ?_
      exact h
theorem w_X0_measure {sh : gS} {Q : Option gV → gS → gM → Prop} {a0 a1 a2 : Int} {M : gM} (hOK : gOK sh M) (h : ((gsh sh a0 = some (0, 1) ∧ a0 < 758) ∧
    (P_X0_measure_18 sh Q a0 a1 a2 0 0 0 (gU (gU M a0 0 0) a0 6 0)))) : gC (gr 1 25) yX0_measure cX0_measure 10 none [(4, a0), (4, a1), (4, a2)] sh M Q := by
  refine gC_ofA (lv := [_, _, _, _, _, _, _, _, _, _]) (by decide +kernel) (Nat.le_of_ble_eq_true rfl) rfl (fun hMw hav => ?_)
  refine g_aload_n (q0 := 1) (j := 0) rfl dX0_measure_0 rfl ?_
  refine g_iconst (q0 := 2) rfl dX0_measure_1 (k := ?_)
  obtain ⟨g34, h⟩ := h
  refine g_put (q0 := 5) (t := 0) (fi := 0) rfl rfl ff_X0_55 dX0_measure_2 rfl g34.1 rfl (fun _ => ⟨rfl, rfl⟩) ?_
  have hOK35 : gOK sh (gU M a0 0 0) := gOK_o hOK g34.1 (f := 0) rfl rfl
  refine g_aload_n (q0 := 6) (j := 0) rfl dX0_measure_5 rfl ?_
  refine g_iconst (q0 := 7) rfl dX0_measure_6 (k := ?_)
  refine g_put (q0 := 10) (t := 0) (fi := 6) rfl rfl ff_X0_59 dX0_measure_7 rfl g34.1 rfl (fun _ => ⟨rfl, rfl⟩) ?_
  have hOK36 : gOK sh (gU (gU M a0 0 0) a0 6 0) := gOK_o hOK35 g34.1 (f := 6) rfl rfl
  refine g_iconst (q0 := 11) rfl dX0_measure_10 (k := ?_)
  refine g_istore_n (q0 := 12) (j := 3) (lv2 := [_, _, _, _, _, _, _, _, _, _]) rfl dX0_measure_11 (by decide) rfl rfl ?_
  refine g_iconst (q0 := 13) rfl dX0_measure_12 (k := ?_)
  refine g_istore (q0 := 15) (j := 4) (lv2 := [_, _, _, _, _, _, _, _, _, _]) rfl dX0_measure_13 (by decide) rfl rfl ?_
  refine g_iconst (q0 := 16) rfl dX0_measure_15 (k := ?_)
  refine g_istore (q0 := 18) (j := 5) (lv2 := [_, _, _, _, _, _, _, _, _, _]) rfl dX0_measure_16 (by decide) rfl rfl ?_
  exact h
-- ==== X0_add
theorem dX0_add_0 : decode cX0_add 0 = .ok (.aload_n 0, 1) := by decide +kernel
theorem dX0_add_1 : decode cX0_add 1 = .ok (.getfield 55, 3) := by decide +kernel
theorem dX0_add_4 : decode cX0_add 4 = .ok (.bipush 32, 2) := by decide +kernel
theorem dX0_add_6 : decode cX0_add 6 = .ok (.if_icmp .ge 65, 3) := by decide +kernel
theorem dX0_add_9 : decode cX0_add 9 = .ok (.aload_n 0, 1) := by decide +kernel
theorem dX0_add_10 : decode cX0_add 10 = .ok (.getfield 9, 3) := by decide +kernel
theorem dX0_add_13 : decode cX0_add 13 = .ok (.aload_n 0, 1) := by decide +kernel
theorem dX0_add_14 : decode cX0_add 14 = .ok (.getfield 55, 3) := by decide +kernel
theorem dX0_add_17 : decode cX0_add 17 = .ok (.iload_n 1, 1) := by decide +kernel
theorem dX0_add_18 : decode cX0_add 18 = .ok (.iastore, 1) := by decide +kernel
theorem dX0_add_19 : decode cX0_add 19 = .ok (.aload_n 0, 1) := by decide +kernel
theorem dX0_add_20 : decode cX0_add 20 = .ok (.getfield 15, 3) := by decide +kernel
theorem dX0_add_23 : decode cX0_add 23 = .ok (.aload_n 0, 1) := by decide +kernel
theorem dX0_add_24 : decode cX0_add 24 = .ok (.getfield 55, 3) := by decide +kernel
theorem dX0_add_27 : decode cX0_add 27 = .ok (.iload_n 2, 1) := by decide +kernel
theorem dX0_add_28 : decode cX0_add 28 = .ok (.iastore, 1) := by decide +kernel
theorem dX0_add_29 : decode cX0_add 29 = .ok (.aload_n 0, 1) := by decide +kernel
theorem dX0_add_30 : decode cX0_add 30 = .ok (.getfield 18, 3) := by decide +kernel
theorem dX0_add_33 : decode cX0_add 33 = .ok (.aload_n 0, 1) := by decide +kernel
theorem dX0_add_34 : decode cX0_add 34 = .ok (.getfield 55, 3) := by decide +kernel
theorem dX0_add_37 : decode cX0_add 37 = .ok (.iload_n 3, 1) := by decide +kernel
theorem dX0_add_38 : decode cX0_add 38 = .ok (.iastore, 1) := by decide +kernel
theorem dX0_add_39 : decode cX0_add 39 = .ok (.aload_n 0, 1) := by decide +kernel
theorem dX0_add_40 : decode cX0_add 40 = .ok (.getfield 21, 3) := by decide +kernel
theorem dX0_add_43 : decode cX0_add 43 = .ok (.aload_n 0, 1) := by decide +kernel
theorem dX0_add_44 : decode cX0_add 44 = .ok (.getfield 55, 3) := by decide +kernel
theorem dX0_add_47 : decode cX0_add 47 = .ok (.iload 4, 2) := by decide +kernel
theorem dX0_add_49 : decode cX0_add 49 = .ok (.iastore, 1) := by decide +kernel
theorem dX0_add_50 : decode cX0_add 50 = .ok (.aload_n 0, 1) := by decide +kernel
theorem dX0_add_51 : decode cX0_add 51 = .ok (.getfield 24, 3) := by decide +kernel
theorem dX0_add_54 : decode cX0_add 54 = .ok (.aload_n 0, 1) := by decide +kernel
theorem dX0_add_55 : decode cX0_add 55 = .ok (.getfield 55, 3) := by decide +kernel
theorem dX0_add_58 : decode cX0_add 58 = .ok (.iload 5, 2) := by decide +kernel
theorem dX0_add_60 : decode cX0_add 60 = .ok (.iastore, 1) := by decide +kernel
theorem dX0_add_61 : decode cX0_add 61 = .ok (.aload_n 0, 1) := by decide +kernel
theorem dX0_add_62 : decode cX0_add 62 = .ok (.dup, 1) := by decide +kernel
theorem dX0_add_63 : decode cX0_add 63 = .ok (.getfield 55, 3) := by decide +kernel
theorem dX0_add_66 : decode cX0_add 66 = .ok (.iconst 1, 1) := by decide +kernel
theorem dX0_add_67 : decode cX0_add 67 = .ok (.iadd, 1) := by decide +kernel
theorem dX0_add_68 : decode cX0_add 68 = .ok (.putfield 55, 3) := by decide +kernel
theorem dX0_add_71 : decode cX0_add 71 = .ok (.return_, 1) := by decide +kernel
theorem w_X0_add {sh : gS} {Q : Option gV → gS → gM → Prop} {a0 a1 a2 a3 a4 a5 : Int} {M : gM} (hOK : gOK sh M) (h : ((gsh sh a0 = some (0, 1) ∧ a0 < 758) ∧
    (if (M a0 0) < 32 then
      (∃ n2 : Nat, gsh sh (a0 + 1) = some (1, n2) ∧
        ((0 ≤ (M a0 0) ∧ (M a0 0) < (n2 : Int)) ∧
          (∃ n5 : Nat, gsh sh (a0 + 2) = some (1, n5) ∧
            ((0 ≤ ((gU M (a0 + 1) (M a0 0) a1) a0 0) ∧ ((gU M (a0 + 1) (M a0 0) a1) a0 0) < (n5 : Int)) ∧
              (∃ n8 : Nat, gsh sh (a0 + 3) = some (1, n8) ∧
                ((0 ≤ ((gU (gU M (a0 + 1) (M a0 0) a1) (a0 + 2) ((gU M (a0 + 1) (M a0 0) a1) a0 0) a2) a0 0) ∧ ((gU (gU M (a0 + 1) (M a0 0) a1) (a0 + 2) ((gU M (a0 + 1) (M a0 0) a1) a0 0) a2) a0 0) < (n8 : Int)) ∧
                  (∃ n11 : Nat, gsh sh (a0 + 4) = some (1, n11) ∧
                    ((0 ≤ ((gU (gU (gU M (a0 + 1) (M a0 0) a1) (a0 + 2) ((gU M (a0 + 1) (M a0 0) a1) a0 0) a2) (a0 + 3) ((gU (gU M (a0 + 1) (M a0 0) a1) (a0 + 2) ((gU M (a0 + 1) (M a0 0) a1) a0 0) a2) a0 0) a3) a0 0) ∧ ((gU (gU (gU M (a0 + 1) (M a0 0) a1) (a0 + 2) ((gU M (a0 + 1) (M a0 0) a1) a0 0) a2) (a0 + 3) ((gU (gU M (a0 + 1) (M a0 0) a1) (a0 + 2) ((gU M (a0 + 1) (M a0 0) a1) a0 0) a2) a0 0) a3) a0 0) < (n11 : Int)) ∧
                      (∃ n14 : Nat, gsh sh (a0 + 5) = some (1, n14) ∧
                        ((0 ≤ ((gU (gU (gU (gU M (a0 + 1) (M a0 0) a1) (a0 + 2) ((gU M (a0 + 1) (M a0 0) a1) a0 0) a2) (a0 + 3) ((gU (gU M (a0 + 1) (M a0 0) a1) (a0 + 2) ((gU M (a0 + 1) (M a0 0) a1) a0 0) a2) a0 0) a3) (a0 + 4) ((gU (gU (gU M (a0 + 1) (M a0 0) a1) (a0 + 2) ((gU M (a0 + 1) (M a0 0) a1) a0 0) a2) (a0 + 3) ((gU (gU M (a0 + 1) (M a0 0) a1) (a0 + 2) ((gU M (a0 + 1) (M a0 0) a1) a0 0) a2) a0 0) a3) a0 0) a4) a0 0) ∧ ((gU (gU (gU (gU M (a0 + 1) (M a0 0) a1) (a0 + 2) ((gU M (a0 + 1) (M a0 0) a1) a0 0) a2) (a0 + 3) ((gU (gU M (a0 + 1) (M a0 0) a1) (a0 + 2) ((gU M (a0 + 1) (M a0 0) a1) a0 0) a2) a0 0) a3) (a0 + 4) ((gU (gU (gU M (a0 + 1) (M a0 0) a1) (a0 + 2) ((gU M (a0 + 1) (M a0 0) a1) a0 0) a2) (a0 + 3) ((gU (gU M (a0 + 1) (M a0 0) a1) (a0 + 2) ((gU M (a0 + 1) (M a0 0) a1) a0 0) a2) a0 0) a3) a0 0) a4) a0 0) < (n14 : Int)) ∧
                          (Q none sh (gU (gU (gU (gU (gU (gU M (a0 + 1) (M a0 0) a1) (a0 + 2) ((gU M (a0 + 1) (M a0 0) a1) a0 0) a2) (a0 + 3) ((gU (gU M (a0 + 1) (M a0 0) a1) (a0 + 2) ((gU M (a0 + 1) (M a0 0) a1) a0 0) a2) a0 0) a3) (a0 + 4) ((gU (gU (gU M (a0 + 1) (M a0 0) a1) (a0 + 2) ((gU M (a0 + 1) (M a0 0) a1) a0 0) a2) (a0 + 3) ((gU (gU M (a0 + 1) (M a0 0) a1) (a0 + 2) ((gU M (a0 + 1) (M a0 0) a1) a0 0) a2) a0 0) a3) a0 0) a4) (a0 + 5) ((gU (gU (gU (gU M (a0 + 1) (M a0 0) a1) (a0 + 2) ((gU M (a0 + 1) (M a0 0) a1) a0 0) a2) (a0 + 3) ((gU (gU M (a0 + 1) (M a0 0) a1) (a0 + 2) ((gU M (a0 + 1) (M a0 0) a1) a0 0) a2) a0 0) a3) (a0 + 4) ((gU (gU (gU M (a0 + 1) (M a0 0) a1) (a0 + 2) ((gU M (a0 + 1) (M a0 0) a1) a0 0) a2) (a0 + 3) ((gU (gU M (a0 + 1) (M a0 0) a1) (a0 + 2) ((gU M (a0 + 1) (M a0 0) a1) a0 0) a2) a0 0) a3) a0 0) a4) a0 0) a5) a0 0 (gw32 (((gU (gU (gU (gU (gU M (a0 + 1) (M a0 0) a1) (a0 + 2) ((gU M (a0 + 1) (M a0 0) a1) a0 0) a2) (a0 + 3) ((gU (gU M (a0 + 1) (M a0 0) a1) (a0 + 2) ((gU M (a0 + 1) (M a0 0) a1) a0 0) a2) a0 0) a3) (a0 + 4) ((gU (gU (gU M (a0 + 1) (M a0 0) a1) (a0 + 2) ((gU M (a0 + 1) (M a0 0) a1) a0 0) a2) (a0 + 3) ((gU (gU M (a0 + 1) (M a0 0) a1) (a0 + 2) ((gU M (a0 + 1) (M a0 0) a1) a0 0) a2) a0 0) a3) a0 0) a4) (a0 + 5) ((gU (gU (gU (gU M (a0 + 1) (M a0 0) a1) (a0 + 2) ((gU M (a0 + 1) (M a0 0) a1) a0 0) a2) (a0 + 3) ((gU (gU M (a0 + 1) (M a0 0) a1) (a0 + 2) ((gU M (a0 + 1) (M a0 0) a1) a0 0) a2) a0 0) a3) (a0 + 4) ((gU (gU (gU M (a0 + 1) (M a0 0) a1) (a0 + 2) ((gU M (a0 + 1) (M a0 0) a1) a0 0) a2) (a0 + 3) ((gU (gU M (a0 + 1) (M a0 0) a1) (a0 + 2) ((gU M (a0 + 1) (M a0 0) a1) a0 0) a2) a0 0) a3) a0 0) a4) a0 0) a5) a0 0) + (1 : Int)))))))))))))))
    else
      (Q none sh M)))) : gC (gr 0 0) yX0_add cX0_add 6 none [(4, a0), (0, a1), (0, a2), (0, a3), (0, a4), (0, a5)] sh M Q := by
  refine gC_ofA (lv := [_, _, _, _, _, _]) (by decide +kernel) (Nat.le_of_ble_eq_true rfl) rfl (fun hMw hav => ?_)
  refine g_aload_n (q0 := 1) (j := 0) rfl dX0_add_0 rfl ?_
  obtain ⟨g1, h⟩ := h
  refine g_getf (q0 := 4) (t := 0) (fi := 0) rfl rfl ff_X0_55 dX0_add_1 rfl g1.1 ?_
  refine g_bipush (q0 := 6) rfl dX0_add_4 (k := ?_)
  refine g_icmp_ge (q0 := 9) (tgt := 71) rfl dX0_add_6 (by decide) (fun h6 => ?_) (fun h6 => ?_)
  · replace h := wI_neg (Int.not_lt.mpr h6) h
    exact g_return dX0_add_71 rfl ⟨Nat.zero_le _, Nat.zero_le _⟩ h
  · replace h := wI_pos h6 h
    refine g_aload_n (q0 := 10) (j := 0) rfl dX0_add_9 rfl ?_
    refine g_getp (q0 := 13) (b := (a0 + 1)) rfl ff_X0_9 dX0_add_10 rfl hOK g1.2 g1.1 rfl rfl ?_
    refine g_aload_n (q0 := 14) (j := 0) rfl dX0_add_13 rfl ?_
    refine g_getf (q0 := 17) (t := 0) (fi := 0) rfl rfl ff_X0_55 dX0_add_14 rfl g1.1 ?_
    refine g_iload_n (q0 := 18) (j := 1) rfl dX0_add_17 rfl ?_
    obtain ⟨n2, sn2, h⟩ := h
    obtain ⟨g3, h⟩ := h
    refine g_iast (q0 := 19) rfl dX0_add_18 sn2 g3.1 g3.2 ?_
    have hOK4 : gOK sh (gU M (a0 + 1) (M a0 0) a1) := gOK_i hOK sn2
    refine g_aload_n (q0 := 20) (j := 0) rfl dX0_add_19 rfl ?_
    refine g_getp (q0 := 23) (b := (a0 + 2)) rfl ff_X0_15 dX0_add_20 rfl hOK4 g1.2 g1.1 rfl rfl ?_
    refine g_aload_n (q0 := 24) (j := 0) rfl dX0_add_23 rfl ?_
    refine g_getf (q0 := 27) (t := 0) (fi := 0) rfl rfl ff_X0_55 dX0_add_24 rfl g1.1 ?_
    refine g_iload_n (q0 := 28) (j := 2) rfl dX0_add_27 rfl ?_
    obtain ⟨n5, sn5, h⟩ := h
    obtain ⟨g6, h⟩ := h
    refine g_iast (q0 := 29) rfl dX0_add_28 sn5 g6.1 g6.2 ?_
    have hOK7 : gOK sh (gU (gU M (a0 + 1) (M a0 0) a1) (a0 + 2) ((gU M (a0 + 1) (M a0 0) a1) a0 0) a2) := gOK_i hOK4 sn5
    refine g_aload_n (q0 := 30) (j := 0) rfl dX0_add_29 rfl ?_
    refine g_getp (q0 := 33) (b := (a0 + 3)) rfl ff_X0_18 dX0_add_30 rfl hOK7 g1.2 g1.1 rfl rfl ?_
    refine g_aload_n (q0 := 34) (j := 0) rfl dX0_add_33 rfl ?_
    refine g_getf (q0 := 37) (t := 0) (fi := 0) rfl rfl ff_X0_55 dX0_add_34 rfl g1.1 ?_
    refine g_iload_n (q0 := 38) (j := 3) rfl dX0_add_37 rfl ?_
    obtain ⟨n8, sn8, h⟩ := h
    obtain ⟨g9, h⟩ := h
    refine g_iast (q0 := 39) rfl dX0_add_38 sn8 g9.1 g9.2 ?_
    have hOK10 : gOK sh (gU (gU (gU M (a0 + 1) (M a0 0) a1) (a0 + 2) ((gU M (a0 + 1) (M a0 0) a1) a0 0) a2) (a0 + 3) ((gU (gU M (a0 + 1) (M a0 0) a1) (a0 + 2) ((gU M (a0 + 1) (M a0 0) a1) a0 0) a2) a0 0) a3) := gOK_i hOK7 sn8
    refine g_aload_n (q0 := 40) (j := 0) rfl dX0_add_39 rfl ?_
    refine g_getp (q0 := 43) (b := (a0 + 4)) rfl ff_X0_21 dX0_add_40 rfl hOK10 g1.2 g1.1 rfl rfl ?_
    refine g_aload_n (q0 := 44) (j := 0) rfl dX0_add_43 rfl ?_
    refine g_getf (q0 := 47) (t := 0) (fi := 0) rfl rfl ff_X0_55 dX0_add_44 rfl g1.1 ?_
    refine g_iload (q0 := 49) (j := 4) rfl dX0_add_47 rfl ?_
    obtain ⟨n11, sn11, h⟩ := h
    obtain ⟨g12, h⟩ := h
    refine g_iast (q0 := 50) rfl dX0_add_49 sn11 g12.1 g12.2 ?_
    have hOK13 : gOK sh (gU (gU (gU (gU M (a0 + 1) (M a0 0) a1) (a0 + 2) ((gU M (a0 + 1) (M a0 0) a1) a0 0) a2) (a0 + 3) ((gU (gU M (a0 + 1) (M a0 0) a1) (a0 + 2) ((gU M (a0 + 1) (M a0 0) a1) a0 0) a2) a0 0) a3) (a0 + 4) ((gU (gU (gU M (a0 + 1) (M a0 0) a1) (a0 + 2) ((gU M (a0 + 1) (M a0 0) a1) a0 0) a2) (a0 + 3) ((gU (gU M (a0 + 1) (M a0 0) a1) (a0 + 2) ((gU M (a0 + 1) (M a0 0) a1) a0 0) a2) a0 0) a3) a0 0) a4) := gOK_i hOK10 sn11
    refine g_aload_n (q0 := 51) (j := 0) rfl dX0_add_50 rfl ?_
    refine g_getp (q0 := 54) (b := (a0 + 5)) rfl ff_X0_24 dX0_add_51 rfl hOK13 g1.2 g1.1 rfl rfl ?_
    refine g_aload_n (q0 := 55) (j := 0) rfl dX0_add_54 rfl ?_
    refine g_getf (q0 := 58) (t := 0) (fi := 0) rfl rfl ff_X0_55 dX0_add_55 rfl g1.1 ?_
    refine g_iload (q0 := 60) (j := 5) rfl dX0_add_58 rfl ?_
    obtain ⟨n14, sn14, h⟩ := h
    obtain ⟨g15, h⟩ := h
    refine g_iast (q0 := 61) rfl dX0_add_60 sn14 g15.1 g15.2 ?_
    have hOK16 : gOK sh (gU (gU (gU (gU (gU M (a0 + 1) (M a0 0) a1) (a0 + 2) ((gU M (a0 + 1) (M a0 0) a1) a0 0) a2) (a0 + 3) ((gU (gU M (a0 + 1) (M a0 0) a1) (a0 + 2) ((gU M (a0 + 1) (M a0 0) a1) a0 0) a2) a0 0) a3) (a0 + 4) ((gU (gU (gU M (a0 + 1) (M a0 0) a1) (a0 + 2) ((gU M (a0 + 1) (M a0 0) a1) a0 0) a2) (a0 + 3) ((gU (gU M (a0 + 1) (M a0 0) a1) (a0 + 2) ((gU M (a0 + 1) (M a0 0) a1) a0 0) a2) a0 0) a3) a0 0) a4) (a0 + 5) ((gU (gU (gU (gU M (a0 + 1) (M a0 0) a1) (a0 + 2) ((gU M (a0 + 1) (M a0 0) a1) a0 0) a2) (a0 + 3) ((gU (gU M (a0 + 1) (M a0 0) a1) (a0 + 2) ((gU M (a0 + 1) (M a0 0) a1) a0 0) a2) a0 0) a3) (a0 + 4) ((gU (gU (gU M (a0 + 1) (M a0 0) a1) (a0 + 2) ((gU M (a0 + 1) (M a0 0) a1) a0 0) a2) (a0 + 3) ((gU (gU M (a0 + 1) (M a0 0) a1) (a0 + 2) ((gU M (a0 + 1) (M a0 0) a1) a0 0) a2) a0 0) a3) a0 0) a4) a0 0) a5) := gOK_i hOK13 sn14
    refine g_aload_n (q0 := 62) (j := 0) rfl dX0_add_61 rfl ?_
    refine g_dup (q0 := 63) rfl dX0_add_62 (k := ?_)
    refine g_getf (q0 := 66) (t := 0) (fi := 0) rfl rfl ff_X0_55 dX0_add_63 rfl g1.1 ?_
    refine g_iconst (q0 := 67) rfl dX0_add_66 (k := ?_)
    refine g_iaddw (q0 := 68) rfl dX0_add_67 ?_
    refine g_put (q0 := 71) (t := 0) (fi := 0) rfl rfl ff_X0_55 dX0_add_68 rfl g1.1 rfl (fun _ => ⟨rfl, rfl⟩) ?_
    have hOK17 : gOK sh (gU (gU (gU (gU (gU (gU M (a0 + 1) (M a0 0) a1) (a0 + 2) ((gU M (a0 + 1) (M a0 0) a1) a0 0) a2) (a0 + 3) ((gU (gU M (a0 + 1) (M a0 0) a1) (a0 + 2) ((gU M (a0 + 1) (M a0 0) a1) a0 0) a2) a0 0) a3) (a0 + 4) ((gU (gU (gU M (a0 + 1) (M a0 0) a1) (a0 + 2) ((gU M (a0 + 1) (M a0 0) a1) a0 0) a2) (a0 + 3) ((gU (gU M (a0 + 1) (M a0 0) a1) (a0 + 2) ((gU M (a0 + 1) (M a0 0) a1) a0 0) a2) a0 0) a3) a0 0) a4) (a0 + 5) ((gU (gU (gU (gU M (a0 + 1) (M a0 0) a1) (a0 + 2) ((gU M (a0 + 1) (M a0 0) a1) a0 0) a2) (a0 + 3) ((gU (gU M (a0 + 1) (M a0 0) a1) (a0 + 2) ((gU M (a0 + 1) (M a0 0) a1) a0 0) a2) a0 0) a3) (a0 + 4) ((gU (gU (gU M (a0 + 1) (M a0 0) a1) (a0 + 2) ((gU M (a0 + 1) (M a0 0) a1) a0 0) a2) (a0 + 3) ((gU (gU M (a0 + 1) (M a0 0) a1) (a0 + 2) ((gU M (a0 + 1) (M a0 0) a1) a0 0) a2) a0 0) a3) a0 0) a4) a0 0) a5) a0 0 (gw32 (((gU (gU (gU (gU (gU M (a0 + 1) (M a0 0) a1) (a0 + 2) ((gU M (a0 + 1) (M a0 0) a1) a0 0) a2) (a0 + 3) ((gU (gU M (a0 + 1) (M a0 0) a1) (a0 + 2) ((gU M (a0 + 1) (M a0 0) a1) a0 0) a2) a0 0) a3) (a0 + 4) ((gU (gU (gU M (a0 + 1) (M a0 0) a1) (a0 + 2) ((gU M (a0 + 1) (M a0 0) a1) a0 0) a2) (a0 + 3) ((gU (gU M (a0 + 1) (M a0 0) a1) (a0 + 2) ((gU M (a0 + 1) (M a0 0) a1) a0 0) a2) a0 0) a3) a0 0) a4) (a0 + 5) ((gU (gU (gU (gU M (a0 + 1) (M a0 0) a1) (a0 + 2) ((gU M (a0 + 1) (M a0 0) a1) a0 0) a2) (a0 + 3) ((gU (gU M (a0 + 1) (M a0 0) a1) (a0 + 2) ((gU M (a0 + 1) (M a0 0) a1) a0 0) a2) a0 0) a3) (a0 + 4) ((gU (gU (gU M (a0 + 1) (M a0 0) a1) (a0 + 2) ((gU M (a0 + 1) (M a0 0) a1) a0 0) a2) (a0 + 3) ((gU (gU M (a0 + 1) (M a0 0) a1) (a0 + 2) ((gU M (a0 + 1) (M a0 0) a1) a0 0) a2) a0 0) a3) a0 0) a4) a0 0) a5) a0 0) + (1 : Int)))) := gOK_o hOK16 g1.1 (f := 0) rfl rfl
    exact g_return dX0_add_71 rfl ⟨Nat.zero_le _, Nat.zero_le _⟩ h
-- ==== X0_countOf
theorem dX0_countOf_0 : decode cX0_countOf 0 = .ok (.iconst 0, 1) := by decide +kernel
theorem dX0_countOf_1 : decode cX0_countOf 1 = .ok (.istore_n 2, 1) := by decide +kernel
theorem dX0_countOf_2 : decode cX0_countOf 2 = .ok (.iconst 0, 1) := by decide +kernel
theorem dX0_countOf_3 : decode cX0_countOf 3 = .ok (.istore_n 3, 1) := by decide +kernel
theorem dX0_countOf_4 : decode cX0_countOf 4 = .ok (.iload_n 3, 1) := by decide +kernel
theorem dX0_countOf_5 : decode cX0_countOf 5 = .ok (.aload_n 0, 1) := by decide +kernel
theorem dX0_countOf_6 : decode cX0_countOf 6 = .ok (.getfield 55, 3) := by decide +kernel
theorem dX0_countOf_9 : decode cX0_countOf 9 = .ok (.if_icmp .ge 43, 3) := by decide +kernel
theorem dX0_countOf_12 : decode cX0_countOf 12 = .ok (.iload_n 1, 1) := by decide +kernel
theorem dX0_countOf_13 : decode cX0_countOf 13 = .ok (.aload_n 0, 1) := by decide +kernel
theorem dX0_countOf_14 : decode cX0_countOf 14 = .ok (.getfield 18, 3) := by decide +kernel
theorem dX0_countOf_17 : decode cX0_countOf 17 = .ok (.iload_n 3, 1) := by decide +kernel
theorem dX0_countOf_18 : decode cX0_countOf 18 = .ok (.iaload, 1) := by decide +kernel
theorem dX0_countOf_19 : decode cX0_countOf 19 = .ok (.ifCond .ne 7, 3) := by decide +kernel
theorem dX0_countOf_22 : decode cX0_countOf 22 = .ok (.iconst 0, 1) := by decide +kernel
theorem dX0_countOf_23 : decode cX0_countOf 23 = .ok (.goto 17, 3) := by decide +kernel
theorem dX0_countOf_26 : decode cX0_countOf 26 = .ok (.aload_n 0, 1) := by decide +kernel
theorem dX0_countOf_27 : decode cX0_countOf 27 = .ok (.getfield 15, 3) := by decide +kernel
theorem dX0_countOf_30 : decode cX0_countOf 30 = .ok (.iload_n 3, 1) := by decide +kernel
theorem dX0_countOf_31 : decode cX0_countOf 31 = .ok (.iaload, 1) := by decide +kernel
theorem dX0_countOf_32 : decode cX0_countOf 32 = .ok (.ifCond .ne 7, 3) := by decide +kernel
theorem dX0_countOf_35 : decode cX0_countOf 35 = .ok (.iconst 1, 1) := by decide +kernel
theorem dX0_countOf_36 : decode cX0_countOf 36 = .ok (.goto 4, 3) := by decide +kernel
theorem dX0_countOf_39 : decode cX0_countOf 39 = .ok (.iconst 2, 1) := by decide +kernel
theorem dX0_countOf_40 : decode cX0_countOf 40 = .ok (.if_icmp .ne 6, 3) := by decide +kernel
theorem dX0_countOf_43 : decode cX0_countOf 43 = .ok (.iinc 2 1, 3) := by decide +kernel
theorem dX0_countOf_46 : decode cX0_countOf 46 = .ok (.iinc 3 1, 3) := by decide +kernel
theorem dX0_countOf_49 : decode cX0_countOf 49 = .ok (.goto (-45), 3) := by decide +kernel
theorem dX0_countOf_52 : decode cX0_countOf 52 = .ok (.iload_n 2, 1) := by decide +kernel
theorem dX0_countOf_53 : decode cX0_countOf 53 = .ok (.ireturn, 1) := by decide +kernel
def P_X0_countOf_4 (sh : gS) (Q : Option gV → gS → gM → Prop) (x0 x1 x2 x3 : Int) (M : gM) : Prop := gA (gr 0 0) yX0_countOf cX0_countOf 4 (some (.int)) Q (0, 0) 4 [(4, x0), (0, x1), (0, x2), (0, x3)] [] sh M
theorem w_X0_countOf_4 {sh : gS} {Q : Option gV → gS → gM → Prop} {x0 x1 x2 x3 : Int} {M : gM} (hOK : gOK sh M) (h : ((gsh sh x0 = some (0, 1) ∧ x0 < 758) ∧
    (if x3 < (M x0 0) then
      (∃ n2 : Nat, gsh sh (x0 + 3) = some (1, n2) ∧
        ((0 ≤ x3 ∧ x3 < (n2 : Int)) ∧
          (if (M (x0 + 3) x3) = 0 then
            (if x1 = 0 then
              (P_X0_countOf_4 sh Q x0 x1 (gw32 (x2 + 1)) (gw32 (x3 + 1)) M)
            else
              (P_X0_countOf_4 sh Q x0 x1 x2 (gw32 (x3 + 1)) M))
          else
            (∃ n4 : Nat, gsh sh (x0 + 2) = some (1, n4) ∧
              ((0 ≤ x3 ∧ x3 < (n4 : Int)) ∧
                (if (M (x0 + 2) x3) = 0 then
                  (if x1 = 1 then
                    (P_X0_countOf_4 sh Q x0 x1 (gw32 (x2 + 1)) (gw32 (x3 + 1)) M)
                  else
                    (P_X0_countOf_4 sh Q x0 x1 x2 (gw32 (x3 + 1)) M))
                else
                  (if x1 = 2 then
                    (P_X0_countOf_4 sh Q x0 x1 (gw32 (x2 + 1)) (gw32 (x3 + 1)) M)
                  else
                    (P_X0_countOf_4 sh Q x0 x1 x2 (gw32 (x3 + 1)) M))))))))
    else
      (Q (some (0, x2)) sh M)))) : P_X0_countOf_4 sh Q x0 x1 x2 x3 M := by
  unfold P_X0_countOf_4
  refine g_iload_n (q0 := 5) (j := 3) rfl dX0_countOf_4 rfl ?_
  refine g_aload_n (q0 := 6) (j := 0) rfl dX0_countOf_5 rfl ?_
  obtain ⟨g1, h⟩ := h
  refine g_getf (q0 := 9) (t := 0) (fi := 0) rfl rfl ff_X0_55 dX0_countOf_6 rfl g1.1 ?_
  refine g_icmp_ge (q0 := 12) (tgt := 52) rfl dX0_countOf_9 (by decide) (fun h9 => ?_) (fun h9 => ?_)
  · replace h := wI_neg (Int.not_lt.mpr h9) h
    refine g_iload_n (q0 := 53) (j := 2) rfl dX0_countOf_52 rfl ?_
    exact g_ireturn dX0_countOf_53 rfl ⟨Nat.zero_le _, Nat.zero_le _⟩ h
  · replace h := wI_pos h9 h
    refine g_iload_n (q0 := 13) (j := 1) rfl dX0_countOf_12 rfl ?_
    refine g_aload_n (q0 := 14) (j := 0) rfl dX0_countOf_13 rfl ?_
    refine g_getp (q0 := 17) (b := (x0 + 3)) rfl ff_X0_18 dX0_countOf_14 rfl hOK g1.2 g1.1 rfl rfl ?_
    refine g_iload_n (q0 := 18) (j := 3) rfl dX0_countOf_17 rfl ?_
    obtain ⟨n2, sn2, h⟩ := h
    obtain ⟨g3, h⟩ := h
    refine g_iald (q0 := 19) rfl dX0_countOf_18 sn2 g3.1 g3.2 ?_
    refine g_if_ne (q0 := 22) (tgt := 26) rfl dX0_countOf_19 (by decide) (fun h19 => ?_) (fun h19 => ?_)
    · replace h := wI_neg h19 h
      refine g_aload_n (q0 := 27) (j := 0) rfl dX0_countOf_26 rfl ?_
      refine g_getp (q0 := 30) (b := (x0 + 2)) rfl ff_X0_15 dX0_countOf_27 rfl hOK g1.2 g1.1 rfl rfl ?_
      refine g_iload_n (q0 := 31) (j := 3) rfl dX0_countOf_30 rfl ?_
      obtain ⟨n4, sn4, h⟩ := h
      obtain ⟨g5, h⟩ := h
      refine g_iald (q0 := 32) rfl dX0_countOf_31 sn4 g5.1 g5.2 ?_
      refine g_if_ne (q0 := 35) (tgt := 39) rfl dX0_countOf_32 (by decide) (fun h32 => ?_) (fun h32 => ?_)
      · replace h := wI_neg h32 h
        refine g_iconst (q0 := 40) rfl dX0_countOf_39 (k := ?_)
        refine g_icmp_ne (q0 := 43) (tgt := 46) rfl dX0_countOf_40 (by decide) (fun h40 => ?_) (fun h40 => ?_)
        · replace h := wI_neg h40 h
          refine g_iincw (q0 := 49) (lv2 := [_, _, _, _]) rfl dX0_countOf_46 rfl (by decide) rfl rfl ?_
          refine g_goto (tgt := 4) dX0_countOf_49 (by decide) ?_
          exact h
        · replace h := wI_pos h40 h
          refine g_iincw (q0 := 46) (lv2 := [_, _, _, _]) rfl dX0_countOf_43 rfl (by decide) rfl rfl ?_
          refine g_iincw (q0 := 49) (lv2 := [_, _, _, _]) rfl dX0_countOf_46 rfl (by decide) rfl rfl ?_
          refine g_goto (tgt := 4) dX0_countOf_49 (by decide) ?_
          exact h
      · replace h := wI_pos h32 h
        refine g_iconst (q0 := 36) rfl dX0_countOf_35 (k := ?_)
        refine g_goto (tgt := 40) dX0_countOf_36 (by decide) ?_
        refine g_icmp_ne (q0 := 43) (tgt := 46) rfl dX0_countOf_40 (by decide) (fun h40 => ?_) (fun h40 => ?_)
        · replace h := wI_neg h40 h
          refine g_iincw (q0 := 49) (lv2 := [_, _, _, _]) rfl dX0_countOf_46 rfl (by decide) rfl rfl ?_
          refine g_goto (tgt := 4) dX0_countOf_49 (by decide) ?_
          exact h
        · replace h := wI_pos h40 h
          refine g_iincw (q0 := 46) (lv2 := [_, _, _, _]) rfl dX0_countOf_43 rfl (by decide) rfl rfl ?_
          refine g_iincw (q0 := 49) (lv2 := [_, _, _, _]) rfl dX0_countOf_46 rfl (by decide) rfl rfl ?_
          refine g_goto (tgt := 4) dX0_countOf_49 (by decide) ?_
          exact h
    · replace h := wI_pos h19 h
      refine g_iconst (q0 := 23) rfl dX0_countOf_22 (k := ?_)
      refine g_goto (tgt := 40) dX0_countOf_23 (by decide) ?_
      refine g_icmp_ne (q0 := 43) (tgt := 46) rfl dX0_countOf_40 (by decide) (fun h40 => ?_) (fun h40 => ?_)
      · replace h := wI_neg h40 h
        refine g_iincw (q0 := 49) (lv2 := [_, _, _, _]) rfl dX0_countOf_46 rfl (by decide) rfl rfl ?_
        refine g_goto (tgt := 4) dX0_countOf_49 (by decide) ?_
        exact h
      · replace h := wI_pos h40 h
        refine g_iincw (q0 := 46) (lv2 := [_, _, _, _]) rfl dX0_countOf_43 rfl (by decide) rfl rfl ?_
        refine g_iincw (q0 := 49) (lv2 := [_, _, _, _]) rfl dX0_countOf_46 rfl (by decide) rfl rfl ?_
        refine g_goto (tgt := 4) dX0_countOf_49 (by decide) ?_
        exact h
theorem w_X0_countOf {sh : gS} {Q : Option gV → gS → gM → Prop} {a0 a1 : Int} {M : gM} (hOK : gOK sh M) (h : (P_X0_countOf_4 sh Q a0 a1 0 0 M)) : gC (gr 0 0) yX0_countOf cX0_countOf 4 (some (.int)) [(4, a0), (0, a1)] sh M Q := by
  refine gC_ofA (lv := [_, _, _, _]) (by decide +kernel) (Nat.le_of_ble_eq_true rfl) rfl (fun hMw hav => ?_)
  refine g_iconst (q0 := 1) rfl dX0_countOf_0 (k := ?_)
  refine g_istore_n (q0 := 2) (j := 2) (lv2 := [_, _, _, _]) rfl dX0_countOf_1 (by decide) rfl rfl ?_
  refine g_iconst (q0 := 3) rfl dX0_countOf_2 (k := ?_)
  refine g_istore_n (q0 := 4) (j := 3) (lv2 := [_, _, _, _]) rfl dX0_countOf_3 (by decide) rfl rfl ?_
  exact h
-- ==== X0_isLike
theorem dX0_isLike_0 : decode cX0_isLike 0 = .ok (.aload_n 0, 1) := by decide +kernel
theorem dX0_isLike_1 : decode cX0_isLike 1 = .ok (.getfield 55, 3) := by decide +kernel
theorem dX0_isLike_4 : decode cX0_isLike 4 = .ok (.aload_n 1, 1) := by decide +kernel
theorem dX0_isLike_5 : decode cX0_isLike 5 = .ok (.getfield 55, 3) := by decide +kernel
theorem dX0_isLike_8 : decode cX0_isLike 8 = .ok (.if_icmp .eq 5, 3) := by decide +kernel
theorem dX0_isLike_11 : decode cX0_isLike 11 = .ok (.iconst 0, 1) := by decide +kernel
theorem dX0_isLike_12 : decode cX0_isLike 12 = .ok (.ireturn, 1) := by decide +kernel
theorem dX0_isLike_13 : decode cX0_isLike 13 = .ok (.iconst 0, 1) := by decide +kernel
theorem dX0_isLike_14 : decode cX0_isLike 14 = .ok (.istore_n 2, 1) := by decide +kernel
theorem dX0_isLike_15 : decode cX0_isLike 15 = .ok (.iload_n 2, 1) := by decide +kernel
theorem dX0_isLike_16 : decode cX0_isLike 16 = .ok (.aload_n 0, 1) := by decide +kernel
theorem dX0_isLike_17 : decode cX0_isLike 17 = .ok (.getfield 55, 3) := by decide +kernel
theorem dX0_isLike_20 : decode cX0_isLike 20 = .ok (.if_icmp .ge 41, 3) := by decide +kernel
theorem dX0_isLike_23 : decode cX0_isLike 23 = .ok (.aload_n 0, 1) := by decide +kernel
theorem dX0_isLike_24 : decode cX0_isLike 24 = .ok (.getfield 9, 3) := by decide +kernel
theorem dX0_isLike_27 : decode cX0_isLike 27 = .ok (.iload_n 2, 1) := by decide +kernel
theorem dX0_isLike_28 : decode cX0_isLike 28 = .ok (.iaload, 1) := by decide +kernel
theorem dX0_isLike_29 : decode cX0_isLike 29 = .ok (.aload_n 1, 1) := by decide +kernel
theorem dX0_isLike_30 : decode cX0_isLike 30 = .ok (.getfield 9, 3) := by decide +kernel
theorem dX0_isLike_33 : decode cX0_isLike 33 = .ok (.iload_n 2, 1) := by decide +kernel
theorem dX0_isLike_34 : decode cX0_isLike 34 = .ok (.iaload, 1) := by decide +kernel
theorem dX0_isLike_35 : decode cX0_isLike 35 = .ok (.if_icmp .ne 18, 3) := by decide +kernel
theorem dX0_isLike_38 : decode cX0_isLike 38 = .ok (.aload_n 0, 1) := by decide +kernel
theorem dX0_isLike_39 : decode cX0_isLike 39 = .ok (.getfield 18, 3) := by decide +kernel
theorem dX0_isLike_42 : decode cX0_isLike 42 = .ok (.iload_n 2, 1) := by decide +kernel
theorem dX0_isLike_43 : decode cX0_isLike 43 = .ok (.iaload, 1) := by decide +kernel
theorem dX0_isLike_44 : decode cX0_isLike 44 = .ok (.aload_n 1, 1) := by decide +kernel
theorem dX0_isLike_45 : decode cX0_isLike 45 = .ok (.getfield 18, 3) := by decide +kernel
theorem dX0_isLike_48 : decode cX0_isLike 48 = .ok (.iload_n 2, 1) := by decide +kernel
theorem dX0_isLike_49 : decode cX0_isLike 49 = .ok (.iaload, 1) := by decide +kernel
theorem dX0_isLike_50 : decode cX0_isLike 50 = .ok (.if_icmp .eq 5, 3) := by decide +kernel
theorem dX0_isLike_53 : decode cX0_isLike 53 = .ok (.iconst 0, 1) := by decide +kernel
theorem dX0_isLike_54 : decode cX0_isLike 54 = .ok (.ireturn, 1) := by decide +kernel
theorem dX0_isLike_55 : decode cX0_isLike 55 = .ok (.iinc 2 1, 3) := by decide +kernel
theorem dX0_isLike_58 : decode cX0_isLike 58 = .ok (.goto (-43), 3) := by decide +kernel
theorem dX0_isLike_61 : decode cX0_isLike 61 = .ok (.iconst 1, 1) := by decide +kernel
theorem dX0_isLike_62 : decode cX0_isLike 62 = .ok (.ireturn, 1) := by decide +kernel
def P_X0_isLike_15 (sh : gS) (Q : Option gV → gS → gM → Prop) (x0 x1 x2 : Int) (M : gM) : Prop := gA (gr 0 0) yX0_isLike cX0_isLike 3 (some (.boolean)) Q (0, 0) 15 [(4, x0), (4, x1), (0, x2)] [] sh M
theorem w_X0_isLike_15 {sh : gS} {Q : Option gV → gS → gM → Prop} {x0 x1 x2 : Int} {M : gM} (hOK : gOK sh M) (h : ((gsh sh x0 = some (0, 1) ∧ x0 < 758) ∧
    (if x2 < (M x0 0) then
      (∃ n2 : Nat, gsh sh (x0 + 1) = some (1, n2) ∧
        ((0 ≤ x2 ∧ x2 < (n2 : Int)) ∧
          ((gsh sh x1 = some (0, 1) ∧ x1 < 758) ∧
            (∃ n5 : Nat, gsh sh (x1 + 1) = some (1, n5) ∧
              ((0 ≤ x2 ∧ x2 < (n5 : Int)) ∧
                (if (M (x0 + 1) x2) = (M (x1 + 1) x2) then
                  (∃ n7 : Nat, gsh sh (x0 + 3) = some (1, n7) ∧
                    ((0 ≤ x2 ∧ x2 < (n7 : Int)) ∧
                      (∃ n9 : Nat, gsh sh (x1 + 3) = some (1, n9) ∧
                        ((0 ≤ x2 ∧ x2 < (n9 : Int)) ∧
                          (if (M (x0 + 3) x2) = (M (x1 + 3) x2) then
                            (P_X0_isLike_15 sh Q x0 x1 (gw32 (x2 + 1)) M)
                          else
                            (Q (some (0, 0)) sh M))))))
                else
                  (Q (some (0, 0)) sh M)))))))
    else
      (Q (some (0, 1)) sh M)))) : P_X0_isLike_15 sh Q x0 x1 x2 M := by
  unfold P_X0_isLike_15
  refine g_iload_n (q0 := 16) (j := 2) rfl dX0_isLike_15 rfl ?_
  refine g_aload_n (q0 := 17) (j := 0) rfl dX0_isLike_16 rfl ?_
  obtain ⟨g1, h⟩ := h
  refine g_getf (q0 := 20) (t := 0) (fi := 0) rfl rfl ff_X0_55 dX0_isLike_17 rfl g1.1 ?_
  refine g_icmp_ge (q0 := 23) (tgt := 61) rfl dX0_isLike_20 (by decide) (fun h20 => ?_) (fun h20 => ?_)
  · replace h := wI_neg (Int.not_lt.mpr h20) h
    refine g_iconst (q0 := 62) rfl dX0_isLike_61 (k := ?_)
    exact g_zreturn dX0_isLike_62 rfl (gnz (Or.inr rfl)) ⟨Nat.zero_le _, Nat.zero_le _⟩ h
  · replace h := wI_pos h20 h
    refine g_aload_n (q0 := 24) (j := 0) rfl dX0_isLike_23 rfl ?_
    refine g_getp (q0 := 27) (b := (x0 + 1)) rfl ff_X0_9 dX0_isLike_24 rfl hOK g1.2 g1.1 rfl rfl ?_
    refine g_iload_n (q0 := 28) (j := 2) rfl dX0_isLike_27 rfl ?_
    obtain ⟨n2, sn2, h⟩ := h
    obtain ⟨g3, h⟩ := h
    refine g_iald (q0 := 29) rfl dX0_isLike_28 sn2 g3.1 g3.2 ?_
    refine g_aload_n (q0 := 30) (j := 1) rfl dX0_isLike_29 rfl ?_
    obtain ⟨g4, h⟩ := h
    refine g_getp (q0 := 33) (b := (x1 + 1)) rfl ff_X0_9 dX0_isLike_30 rfl hOK g4.2 g4.1 rfl rfl ?_
    refine g_iload_n (q0 := 34) (j := 2) rfl dX0_isLike_33 rfl ?_
    obtain ⟨n5, sn5, h⟩ := h
    obtain ⟨g6, h⟩ := h
    refine g_iald (q0 := 35) rfl dX0_isLike_34 sn5 g6.1 g6.2 ?_
    refine g_icmp_ne (q0 := 38) (tgt := 53) rfl dX0_isLike_35 (by decide) (fun h35 => ?_) (fun h35 => ?_)
    · replace h := wI_neg h35 h
      refine g_iconst (q0 := 54) rfl dX0_isLike_53 (k := ?_)
      exact g_zreturn dX0_isLike_54 rfl (gnz (Or.inl rfl)) ⟨Nat.zero_le _, Nat.zero_le _⟩ h
    · replace h := wI_pos h35 h
      refine g_aload_n (q0 := 39) (j := 0) rfl dX0_isLike_38 rfl ?_
      refine g_getp (q0 := 42) (b := (x0 + 3)) rfl ff_X0_18 dX0_isLike_39 rfl hOK g1.2 g1.1 rfl rfl ?_
      refine g_iload_n (q0 := 43) (j := 2) rfl dX0_isLike_42 rfl ?_
      obtain ⟨n7, sn7, h⟩ := h
      obtain ⟨g8, h⟩ := h
      refine g_iald (q0 := 44) rfl dX0_isLike_43 sn7 g8.1 g8.2 ?_
      refine g_aload_n (q0 := 45) (j := 1) rfl dX0_isLike_44 rfl ?_
      refine g_getp (q0 := 48) (b := (x1 + 3)) rfl ff_X0_18 dX0_isLike_45 rfl hOK g4.2 g4.1 rfl rfl ?_
      refine g_iload_n (q0 := 49) (j := 2) rfl dX0_isLike_48 rfl ?_
      obtain ⟨n9, sn9, h⟩ := h
      obtain ⟨g10, h⟩ := h
      refine g_iald (q0 := 50) rfl dX0_isLike_49 sn9 g10.1 g10.2 ?_
      refine g_icmp_eq (q0 := 53) (tgt := 55) rfl dX0_isLike_50 (by decide) (fun h50 => ?_) (fun h50 => ?_)
      · replace h := wI_pos h50 h
        refine g_iincw (q0 := 58) (lv2 := [_, _, _]) rfl dX0_isLike_55 rfl (by decide) rfl rfl ?_
        refine g_goto (tgt := 15) dX0_isLike_58 (by decide) ?_
        exact h
      · replace h := wI_neg h50 h
        refine g_iconst (q0 := 54) rfl dX0_isLike_53 (k := ?_)
        exact g_zreturn dX0_isLike_54 rfl (gnz (Or.inl rfl)) ⟨Nat.zero_le _, Nat.zero_le _⟩ h
theorem w_X0_isLike {sh : gS} {Q : Option gV → gS → gM → Prop} {a0 a1 : Int} {M : gM} (hOK : gOK sh M) (h : ((gsh sh a0 = some (0, 1) ∧ a0 < 758) ∧
    ((gsh sh a1 = some (0, 1) ∧ a1 < 758) ∧
      (if (M a0 0) = (M a1 0) then
        (P_X0_isLike_15 sh Q a0 a1 0 M)
      else
        (Q (some (0, 0)) sh M))))) : gC (gr 0 0) yX0_isLike cX0_isLike 3 (some (.boolean)) [(4, a0), (4, a1)] sh M Q := by
  refine gC_ofA (lv := [_, _, _]) (by decide +kernel) (Nat.le_of_ble_eq_true rfl) rfl (fun hMw hav => ?_)
  refine g_aload_n (q0 := 1) (j := 0) rfl dX0_isLike_0 rfl ?_
  obtain ⟨g11, h⟩ := h
  refine g_getf (q0 := 4) (t := 0) (fi := 0) rfl rfl ff_X0_55 dX0_isLike_1 rfl g11.1 ?_
  refine g_aload_n (q0 := 5) (j := 1) rfl dX0_isLike_4 rfl ?_
  obtain ⟨g12, h⟩ := h
  refine g_getf (q0 := 8) (t := 0) (fi := 0) rfl rfl ff_X0_55 dX0_isLike_5 rfl g12.1 ?_
  refine g_icmp_eq (q0 := 11) (tgt := 13) rfl dX0_isLike_8 (by decide) (fun h8 => ?_) (fun h8 => ?_)
  · replace h := wI_pos h8 h
    refine g_iconst (q0 := 14) rfl dX0_isLike_13 (k := ?_)
    refine g_istore_n (q0 := 15) (j := 2) (lv2 := [_, _, _]) rfl dX0_isLike_14 (by decide) rfl rfl ?_
    exact h
  · replace h := wI_neg h8 h
    refine g_iconst (q0 := 12) rfl dX0_isLike_11 (k := ?_)
    exact g_zreturn dX0_isLike_12 rfl (gnz (Or.inl rfl)) ⟨Nat.zero_le _, Nat.zero_le _⟩ h
-- ==== X0_fits
theorem dX0_fits_0 : decode cX0_fits 0 = .ok (.iconst 0, 1) := by decide +kernel
theorem dX0_fits_1 : decode cX0_fits 1 = .ok (.istore_n 2, 1) := by decide +kernel
theorem dX0_fits_2 : decode cX0_fits 2 = .ok (.iload_n 2, 1) := by decide +kernel
theorem dX0_fits_3 : decode cX0_fits 3 = .ok (.aload_n 0, 1) := by decide +kernel
theorem dX0_fits_4 : decode cX0_fits 4 = .ok (.getfield 55, 3) := by decide +kernel
theorem dX0_fits_7 : decode cX0_fits 7 = .ok (.if_icmp .ge 42, 3) := by decide +kernel
theorem dX0_fits_10 : decode cX0_fits 10 = .ok (.aload_n 1, 1) := by decide +kernel
theorem dX0_fits_11 : decode cX0_fits 11 = .ok (.aload_n 0, 1) := by decide +kernel
theorem dX0_fits_12 : decode cX0_fits 12 = .ok (.getfield 9, 3) := by decide +kernel
theorem dX0_fits_15 : decode cX0_fits 15 = .ok (.iload_n 2, 1) := by decide +kernel
theorem dX0_fits_16 : decode cX0_fits 16 = .ok (.iaload, 1) := by decide +kernel
theorem dX0_fits_17 : decode cX0_fits 17 = .ok (.invokevirtual 73, 3) := by decide +kernel
theorem dX0_fits_20 : decode cX0_fits 20 = .ok (.istore_n 3, 1) := by decide +kernel
theorem dX0_fits_21 : decode cX0_fits 21 = .ok (.iload_n 3, 1) := by decide +kernel
theorem dX0_fits_22 : decode cX0_fits 22 = .ok (.aload_n 0, 1) := by decide +kernel
theorem dX0_fits_23 : decode cX0_fits 23 = .ok (.getfield 15, 3) := by decide +kernel
theorem dX0_fits_26 : decode cX0_fits 26 = .ok (.iload_n 2, 1) := by decide +kernel
theorem dX0_fits_27 : decode cX0_fits 27 = .ok (.iaload, 1) := by decide +kernel
theorem dX0_fits_28 : decode cX0_fits 28 = .ok (.if_icmp .eq 15, 3) := by decide +kernel
theorem dX0_fits_31 : decode cX0_fits 31 = .ok (.iload_n 3, 1) := by decide +kernel
theorem dX0_fits_32 : decode cX0_fits 32 = .ok (.aload_n 0, 1) := by decide +kernel
theorem dX0_fits_33 : decode cX0_fits 33 = .ok (.getfield 18, 3) := by decide +kernel
theorem dX0_fits_36 : decode cX0_fits 36 = .ok (.iload_n 2, 1) := by decide +kernel
theorem dX0_fits_37 : decode cX0_fits 37 = .ok (.iaload, 1) := by decide +kernel
theorem dX0_fits_38 : decode cX0_fits 38 = .ok (.if_icmp .eq 5, 3) := by decide +kernel
theorem dX0_fits_41 : decode cX0_fits 41 = .ok (.iconst 0, 1) := by decide +kernel
theorem dX0_fits_42 : decode cX0_fits 42 = .ok (.ireturn, 1) := by decide +kernel
theorem dX0_fits_43 : decode cX0_fits 43 = .ok (.iinc 2 1, 3) := by decide +kernel
theorem dX0_fits_46 : decode cX0_fits 46 = .ok (.goto (-44), 3) := by decide +kernel
theorem dX0_fits_49 : decode cX0_fits 49 = .ok (.iconst 1, 1) := by decide +kernel
theorem dX0_fits_50 : decode cX0_fits 50 = .ok (.ireturn, 1) := by decide +kernel
def P_X0_fits_2 (sh : gS) (Q : Option gV → gS → gM → Prop) (x0 x1 x2 : Int) (M : gM) : Prop := gA (gr 2 44) yX0_fits cX0_fits 4 (some (.boolean)) Q (0, 0) 2 [(4, x0), (4, x1), (0, x2), (9, 0)] [] sh M
theorem w_X0_fits_2 {sh : gS} {Q : Option gV → gS → gM → Prop} {x0 x1 x2 : Int} {M : gM} (hOK : gOK sh M) (h : ((gsh sh x0 = some (0, 1) ∧ x0 < 758) ∧
    (if x2 < (M x0 0) then
      (∃ n2 : Nat, gsh sh (x0 + 1) = some (1, n2) ∧
        ((0 ≤ x2 ∧ x2 < (n2 : Int)) ∧
          ((gsh sh x1 = some (0, 11) ∧ x1 < 758) ∧
            (∃ v17 : Int, gC (gr 1 22) yX10_contentAt cX10_contentAt 3 (some (.int)) [(4, x1), (0, (M (x0 + 1) x2))] sh M (gPp sh M (0, v17)) ∧
              (∃ n5 : Nat, gsh sh (x0 + 2) = some (1, n5) ∧
                ((0 ≤ x2 ∧ x2 < (n5 : Int)) ∧
                  (if v17 = (M (x0 + 2) x2) then
                    (P_X0_fits_2 sh Q x0 x1 (gw32 (x2 + 1)) M)
                  else
                    (∃ n7 : Nat, gsh sh (x0 + 3) = some (1, n7) ∧
                      ((0 ≤ x2 ∧ x2 < (n7 : Int)) ∧
                        (if v17 = (M (x0 + 3) x2) then
                          (P_X0_fits_2 sh Q x0 x1 (gw32 (x2 + 1)) M)
                        else
                          (Q (some (0, 0)) sh M)))))))))))
    else
      (Q (some (0, 1)) sh M)))) : P_X0_fits_2 sh Q x0 x1 x2 M := by
  unfold P_X0_fits_2
  refine g_iload_n (q0 := 3) (j := 2) rfl dX0_fits_2 rfl ?_
  refine g_aload_n (q0 := 4) (j := 0) rfl dX0_fits_3 rfl ?_
  obtain ⟨g1, h⟩ := h
  refine g_getf (q0 := 7) (t := 0) (fi := 0) rfl rfl ff_X0_55 dX0_fits_4 rfl g1.1 ?_
  refine g_icmp_ge (q0 := 10) (tgt := 49) rfl dX0_fits_7 (by decide) (fun h7 => ?_) (fun h7 => ?_)
  · replace h := wI_neg (Int.not_lt.mpr h7) h
    refine g_iconst (q0 := 50) rfl dX0_fits_49 (k := ?_)
    exact g_zreturn dX0_fits_50 rfl (gnz (Or.inr rfl)) ⟨Nat.zero_le _, Nat.zero_le _⟩ h
  · replace h := wI_pos h7 h
    refine g_aload_n (q0 := 11) (j := 1) rfl dX0_fits_10 rfl ?_
    refine g_aload_n (q0 := 12) (j := 0) rfl dX0_fits_11 rfl ?_
    refine g_getp (q0 := 15) (b := (x0 + 1)) rfl ff_X0_9 dX0_fits_12 rfl hOK g1.2 g1.1 rfl rfl ?_
    refine g_iload_n (q0 := 16) (j := 2) rfl dX0_fits_15 rfl ?_
    obtain ⟨n2, sn2, h⟩ := h
    obtain ⟨g3, h⟩ := h
    refine g_iald (q0 := 17) rfl dX0_fits_16 sn2 g3.1 g3.2 ?_
    obtain ⟨g4, h⟩ := h
    obtain ⟨v17, e17, h⟩ := h
    refine g_callVp (as := [_]) (rest := []) mt_X10_contentAt mi_X10_contentAt se_X10_contentAt ml_X0_73 dX0_fits_17 (q0 := 20) rfl rfl g4.1 rfl rfl e17 rfl ⟨by decide, by decide⟩ (Nat.le_of_ble_eq_true rfl) ⟨Nat.zero_le _, Nat.zero_le _⟩ (fun _ => ?_)
    refine g_istore_n (q0 := 21) (j := 3) (lv2 := [_, _, _, _]) rfl dX0_fits_20 (by decide) rfl rfl ?_
    refine g_iload_n (q0 := 22) (j := 3) rfl dX0_fits_21 rfl ?_
    refine g_aload_n (q0 := 23) (j := 0) rfl dX0_fits_22 rfl ?_
    refine g_getp (q0 := 26) (b := (x0 + 2)) rfl ff_X0_15 dX0_fits_23 rfl hOK g1.2 g1.1 rfl rfl ?_
    refine g_iload_n (q0 := 27) (j := 2) rfl dX0_fits_26 rfl ?_
    obtain ⟨n5, sn5, h⟩ := h
    obtain ⟨g6, h⟩ := h
    refine g_iald (q0 := 28) rfl dX0_fits_27 sn5 g6.1 g6.2 ?_
    refine g_icmp_eq (q0 := 31) (tgt := 43) rfl dX0_fits_28 (by decide) (fun h28 => ?_) (fun h28 => ?_)
    · replace h := wI_pos h28 h
      refine g_iincw (q0 := 46) (lv2 := [_, _, _, _]) rfl dX0_fits_43 rfl (by decide) rfl rfl ?_
      refine g_goto (tgt := 2) dX0_fits_46 (by decide) ?_
      refine gA_jk (lv1 := [_, _, _, (9, 0)]) ⟨.inl rfl, .inl rfl, .inl rfl, .inr rfl, trivial⟩ ?_
      exact h
    · replace h := wI_neg h28 h
      refine g_iload_n (q0 := 32) (j := 3) rfl dX0_fits_31 rfl ?_
      refine g_aload_n (q0 := 33) (j := 0) rfl dX0_fits_32 rfl ?_
      refine g_getp (q0 := 36) (b := (x0 + 3)) rfl ff_X0_18 dX0_fits_33 rfl hOK g1.2 g1.1 rfl rfl ?_
      refine g_iload_n (q0 := 37) (j := 2) rfl dX0_fits_36 rfl ?_
      obtain ⟨n7, sn7, h⟩ := h
      obtain ⟨g8, h⟩ := h
      refine g_iald (q0 := 38) rfl dX0_fits_37 sn7 g8.1 g8.2 ?_
      refine g_icmp_eq (q0 := 41) (tgt := 43) rfl dX0_fits_38 (by decide) (fun h38 => ?_) (fun h38 => ?_)
      · replace h := wI_pos h38 h
        refine g_iincw (q0 := 46) (lv2 := [_, _, _, _]) rfl dX0_fits_43 rfl (by decide) rfl rfl ?_
        refine g_goto (tgt := 2) dX0_fits_46 (by decide) ?_
        refine gA_jk (lv1 := [_, _, _, (9, 0)]) ⟨.inl rfl, .inl rfl, .inl rfl, .inr rfl, trivial⟩ ?_
        exact h
      · replace h := wI_neg h38 h
        refine g_iconst (q0 := 42) rfl dX0_fits_41 (k := ?_)
        exact g_zreturn dX0_fits_42 rfl (gnz (Or.inl rfl)) ⟨Nat.zero_le _, Nat.zero_le _⟩ h
theorem w_X0_fits {sh : gS} {Q : Option gV → gS → gM → Prop} {a0 a1 : Int} {M : gM} (hOK : gOK sh M) (h : (P_X0_fits_2 sh Q a0 a1 0 M)) : gC (gr 2 44) yX0_fits cX0_fits 4 (some (.boolean)) [(4, a0), (4, a1)] sh M Q := by
  refine gC_ofA (lv := [_, _, _, _]) (by decide +kernel) (Nat.le_of_ble_eq_true rfl) rfl (fun hMw hav => ?_)
  refine g_iconst (q0 := 1) rfl dX0_fits_0 (k := ?_)
  refine g_istore_n (q0 := 2) (j := 2) (lv2 := [_, _, _, _]) rfl dX0_fits_1 (by decide) rfl rfl ?_
  exact h
-- ==== X0_apply
theorem dX0_apply_0 : decode cX0_apply 0 = .ok (.iconst 0, 1) := by decide +kernel
theorem dX0_apply_1 : decode cX0_apply 1 = .ok (.istore_n 2, 1) := by decide +kernel
theorem dX0_apply_2 : decode cX0_apply 2 = .ok (.iload_n 2, 1) := by decide +kernel
theorem dX0_apply_3 : decode cX0_apply 3 = .ok (.aload_n 0, 1) := by decide +kernel
theorem dX0_apply_4 : decode cX0_apply 4 = .ok (.getfield 55, 3) := by decide +kernel
theorem dX0_apply_7 : decode cX0_apply 7 = .ok (.if_icmp .ge 28, 3) := by decide +kernel
theorem dX0_apply_10 : decode cX0_apply 10 = .ok (.aload_n 0, 1) := by decide +kernel
theorem dX0_apply_11 : decode cX0_apply 11 = .ok (.getfield 18, 3) := by decide +kernel
theorem dX0_apply_14 : decode cX0_apply 14 = .ok (.iload_n 2, 1) := by decide +kernel
theorem dX0_apply_15 : decode cX0_apply 15 = .ok (.iaload, 1) := by decide +kernel
theorem dX0_apply_16 : decode cX0_apply 16 = .ok (.ifCond .ne 13, 3) := by decide +kernel
theorem dX0_apply_19 : decode cX0_apply 19 = .ok (.aload_n 1, 1) := by decide +kernel
theorem dX0_apply_20 : decode cX0_apply 20 = .ok (.aload_n 0, 1) := by decide +kernel
theorem dX0_apply_21 : decode cX0_apply 21 = .ok (.getfield 9, 3) := by decide +kernel
theorem dX0_apply_24 : decode cX0_apply 24 = .ok (.iload_n 2, 1) := by decide +kernel
theorem dX0_apply_25 : decode cX0_apply 25 = .ok (.iaload, 1) := by decide +kernel
theorem dX0_apply_26 : decode cX0_apply 26 = .ok (.invokevirtual 77, 3) := by decide +kernel
theorem dX0_apply_29 : decode cX0_apply 29 = .ok (.iinc 2 1, 3) := by decide +kernel
theorem dX0_apply_32 : decode cX0_apply 32 = .ok (.goto (-30), 3) := by decide +kernel
theorem dX0_apply_35 : decode cX0_apply 35 = .ok (.iconst 0, 1) := by decide +kernel
theorem dX0_apply_36 : decode cX0_apply 36 = .ok (.istore_n 2, 1) := by decide +kernel
theorem dX0_apply_37 : decode cX0_apply 37 = .ok (.iload_n 2, 1) := by decide +kernel
theorem dX0_apply_38 : decode cX0_apply 38 = .ok (.aload_n 0, 1) := by decide +kernel
theorem dX0_apply_39 : decode cX0_apply 39 = .ok (.getfield 55, 3) := by decide +kernel
theorem dX0_apply_42 : decode cX0_apply 42 = .ok (.if_icmp .ge 34, 3) := by decide +kernel
theorem dX0_apply_45 : decode cX0_apply 45 = .ok (.aload_n 0, 1) := by decide +kernel
theorem dX0_apply_46 : decode cX0_apply 46 = .ok (.getfield 18, 3) := by decide +kernel
theorem dX0_apply_49 : decode cX0_apply 49 = .ok (.iload_n 2, 1) := by decide +kernel
theorem dX0_apply_50 : decode cX0_apply 50 = .ok (.iaload, 1) := by decide +kernel
theorem dX0_apply_51 : decode cX0_apply 51 = .ok (.ifCond .eq 19, 3) := by decide +kernel
theorem dX0_apply_54 : decode cX0_apply 54 = .ok (.aload_n 1, 1) := by decide +kernel
theorem dX0_apply_55 : decode cX0_apply 55 = .ok (.aload_n 0, 1) := by decide +kernel
theorem dX0_apply_56 : decode cX0_apply 56 = .ok (.getfield 9, 3) := by decide +kernel
theorem dX0_apply_59 : decode cX0_apply 59 = .ok (.iload_n 2, 1) := by decide +kernel
theorem dX0_apply_60 : decode cX0_apply 60 = .ok (.iaload, 1) := by decide +kernel
theorem dX0_apply_61 : decode cX0_apply 61 = .ok (.aload_n 0, 1) := by decide +kernel
theorem dX0_apply_62 : decode cX0_apply 62 = .ok (.getfield 18, 3) := by decide +kernel
theorem dX0_apply_65 : decode cX0_apply 65 = .ok (.iload_n 2, 1) := by decide +kernel
theorem dX0_apply_66 : decode cX0_apply 66 = .ok (.iaload, 1) := by decide +kernel
theorem dX0_apply_67 : decode cX0_apply 67 = .ok (.invokevirtual 81, 3) := by decide +kernel
theorem dX0_apply_70 : decode cX0_apply 70 = .ok (.iinc 2 1, 3) := by decide +kernel
theorem dX0_apply_73 : decode cX0_apply 73 = .ok (.goto (-36), 3) := by decide +kernel
theorem dX0_apply_76 : decode cX0_apply 76 = .ok (.return_, 1) := by decide +kernel
def P_X0_apply_2 (sh : gS) (Q : Option gV → gS → gM → Prop) (x0 x1 x2 : Int) (M : gM) : Prop := gA (gr 1 24) yX0_apply cX0_apply 3 none Q (0, 0) 2 [(4, x0), (4, x1), (0, x2)] [] sh M
def P_X0_apply_37 (sh : gS) (Q : Option gV → gS → gM → Prop) (x0 x1 x2 : Int) (M : gM) : Prop := gA (gr 1 24) yX0_apply cX0_apply 3 none Q (0, 0) 37 [(4, x0), (4, x1), (0, x2)] [] sh M
theorem w_X0_apply_2 {sh : gS} {Q : Option gV → gS → gM → Prop} {x0 x1 x2 : Int} {M : gM} (hOK : gOK sh M) (h : ((gsh sh x0 = some (0, 1) ∧ x0 < 758) ∧
    (if x2 < (M x0 0) then
      (∃ n2 : Nat, gsh sh (x0 + 3) = some (1, n2) ∧
        ((0 ≤ x2 ∧ x2 < (n2 : Int)) ∧
          (if (M (x0 + 3) x2) = 0 then
            (∃ n4 : Nat, gsh sh (x0 + 1) = some (1, n4) ∧
              ((0 ≤ x2 ∧ x2 < (n4 : Int)) ∧
                ((gsh sh x1 = some (0, 11) ∧ x1 < 758) ∧
                  (∃ P26 : Option gV → gM → Prop, gC (gr 0 0) yX10_removeFile cX10_removeFile 4 none [(4, x1), (0, (M (x0 + 1) x2))] sh M (gPm sh P26) ∧ ∀ (r26 : Option gV) (M26 : gM), P26 r26 M26 → r26 = none ∧ gOK sh M26 ∧
                    (P_X0_apply_2 sh Q x0 x1 (gw32 (x2 + 1)) M26)))))
          else
            (P_X0_apply_2 sh Q x0 x1 (gw32 (x2 + 1)) M))))
    else
      (P_X0_apply_37 sh Q x0 x1 0 M)))) : P_X0_apply_2 sh Q x0 x1 x2 M := by
  unfold P_X0_apply_2
  refine g_iload_n (q0 := 3) (j := 2) rfl dX0_apply_2 rfl ?_
  refine g_aload_n (q0 := 4) (j := 0) rfl dX0_apply_3 rfl ?_
  obtain ⟨g1, h⟩ := h
  refine g_getf (q0 := 7) (t := 0) (fi := 0) rfl rfl ff_X0_55 dX0_apply_4 rfl g1.1 ?_
  refine g_icmp_ge (q0 := 10) (tgt := 35) rfl dX0_apply_7 (by decide) (fun h7 => ?_) (fun h7 => ?_)
  · replace h := wI_neg (Int.not_lt.mpr h7) h
    refine g_iconst (q0 := 36) rfl dX0_apply_35 (k := ?_)
    refine g_istore_n (q0 := 37) (j := 2) (lv2 := [_, _, _]) rfl dX0_apply_36 (by decide) rfl rfl ?_
    exact h
  · replace h := wI_pos h7 h
    refine g_aload_n (q0 := 11) (j := 0) rfl dX0_apply_10 rfl ?_
    refine g_getp (q0 := 14) (b := (x0 + 3)) rfl ff_X0_18 dX0_apply_11 rfl hOK g1.2 g1.1 rfl rfl ?_
    refine g_iload_n (q0 := 15) (j := 2) rfl dX0_apply_14 rfl ?_
    obtain ⟨n2, sn2, h⟩ := h
    obtain ⟨g3, h⟩ := h
    refine g_iald (q0 := 16) rfl dX0_apply_15 sn2 g3.1 g3.2 ?_
    refine g_if_ne (q0 := 19) (tgt := 29) rfl dX0_apply_16 (by decide) (fun h16 => ?_) (fun h16 => ?_)
    · replace h := wI_neg h16 h
      refine g_iincw (q0 := 32) (lv2 := [_, _, _]) rfl dX0_apply_29 rfl (by decide) rfl rfl ?_
      refine g_goto (tgt := 2) dX0_apply_32 (by decide) ?_
      exact h
    · replace h := wI_pos h16 h
      refine g_aload_n (q0 := 20) (j := 1) rfl dX0_apply_19 rfl ?_
      refine g_aload_n (q0 := 21) (j := 0) rfl dX0_apply_20 rfl ?_
      refine g_getp (q0 := 24) (b := (x0 + 1)) rfl ff_X0_9 dX0_apply_21 rfl hOK g1.2 g1.1 rfl rfl ?_
      refine g_iload_n (q0 := 25) (j := 2) rfl dX0_apply_24 rfl ?_
      obtain ⟨n4, sn4, h⟩ := h
      obtain ⟨g5, h⟩ := h
      refine g_iald (q0 := 26) rfl dX0_apply_25 sn4 g5.1 g5.2 ?_
      obtain ⟨g6, h⟩ := h
      obtain ⟨P26, e26, h⟩ := h
      refine g_callVm (as := [_]) (rest := []) mt_X10_removeFile mi_X10_removeFile se_X10_removeFile ml_X0_77 dX0_apply_26 (q0 := 29) rfl rfl g6.1 rfl rfl e26 rfl ⟨by decide, by decide⟩ (Nat.le_of_ble_eq_true rfl) ⟨Nat.zero_le _, Nat.zero_le _⟩ (fun r26 M26 hP26 hw26 hMw26 => ?_)
      obtain ⟨hr26, hOK7, h⟩ := h r26 M26 hP26
      subst hr26
      refine g_iincw (q0 := 32) (lv2 := [_, _, _]) rfl dX0_apply_29 rfl (by decide) rfl rfl ?_
      refine g_goto (tgt := 2) dX0_apply_32 (by decide) ?_
      exact h
theorem w_X0_apply_37 {sh : gS} {Q : Option gV → gS → gM → Prop} {x0 x1 x2 : Int} {M : gM} (hOK : gOK sh M) (h : ((gsh sh x0 = some (0, 1) ∧ x0 < 758) ∧
    (if x2 < (M x0 0) then
      (∃ n9 : Nat, gsh sh (x0 + 3) = some (1, n9) ∧
        ((0 ≤ x2 ∧ x2 < (n9 : Int)) ∧
          (if (M (x0 + 3) x2) = 0 then
            (P_X0_apply_37 sh Q x0 x1 (gw32 (x2 + 1)) M)
          else
            (∃ n11 : Nat, gsh sh (x0 + 1) = some (1, n11) ∧
              ((0 ≤ x2 ∧ x2 < (n11 : Int)) ∧
                ((gsh sh x1 = some (0, 11) ∧ x1 < 758) ∧
                  (∃ P67 : Option gV → gM → Prop, gC (gr 0 0) yX10_put cX10_put 5 none [(4, x1), (0, (M (x0 + 1) x2)), (0, (M (x0 + 3) x2))] sh M (gPm sh P67) ∧ ∀ (r67 : Option gV) (M67 : gM), P67 r67 M67 → r67 = none ∧ gOK sh M67 ∧
                    (P_X0_apply_37 sh Q x0 x1 (gw32 (x2 + 1)) M67))))))))
    else
      (Q none sh M)))) : P_X0_apply_37 sh Q x0 x1 x2 M := by
  unfold P_X0_apply_37
  refine g_iload_n (q0 := 38) (j := 2) rfl dX0_apply_37 rfl ?_
  refine g_aload_n (q0 := 39) (j := 0) rfl dX0_apply_38 rfl ?_
  obtain ⟨g8, h⟩ := h
  refine g_getf (q0 := 42) (t := 0) (fi := 0) rfl rfl ff_X0_55 dX0_apply_39 rfl g8.1 ?_
  refine g_icmp_ge (q0 := 45) (tgt := 76) rfl dX0_apply_42 (by decide) (fun h42 => ?_) (fun h42 => ?_)
  · replace h := wI_neg (Int.not_lt.mpr h42) h
    exact g_return dX0_apply_76 rfl ⟨Nat.zero_le _, Nat.zero_le _⟩ h
  · replace h := wI_pos h42 h
    refine g_aload_n (q0 := 46) (j := 0) rfl dX0_apply_45 rfl ?_
    refine g_getp (q0 := 49) (b := (x0 + 3)) rfl ff_X0_18 dX0_apply_46 rfl hOK g8.2 g8.1 rfl rfl ?_
    refine g_iload_n (q0 := 50) (j := 2) rfl dX0_apply_49 rfl ?_
    obtain ⟨n9, sn9, h⟩ := h
    obtain ⟨g10, h⟩ := h
    refine g_iald (q0 := 51) rfl dX0_apply_50 sn9 g10.1 g10.2 ?_
    refine g_if_eq (q0 := 54) (tgt := 70) rfl dX0_apply_51 (by decide) (fun h51 => ?_) (fun h51 => ?_)
    · replace h := wI_pos h51 h
      refine g_iincw (q0 := 73) (lv2 := [_, _, _]) rfl dX0_apply_70 rfl (by decide) rfl rfl ?_
      refine g_goto (tgt := 37) dX0_apply_73 (by decide) ?_
      exact h
    · replace h := wI_neg h51 h
      refine g_aload_n (q0 := 55) (j := 1) rfl dX0_apply_54 rfl ?_
      refine g_aload_n (q0 := 56) (j := 0) rfl dX0_apply_55 rfl ?_
      refine g_getp (q0 := 59) (b := (x0 + 1)) rfl ff_X0_9 dX0_apply_56 rfl hOK g8.2 g8.1 rfl rfl ?_
      refine g_iload_n (q0 := 60) (j := 2) rfl dX0_apply_59 rfl ?_
      obtain ⟨n11, sn11, h⟩ := h
      obtain ⟨g12, h⟩ := h
      refine g_iald (q0 := 61) rfl dX0_apply_60 sn11 g12.1 g12.2 ?_
      refine g_aload_n (q0 := 62) (j := 0) rfl dX0_apply_61 rfl ?_
      refine g_getp (q0 := 65) (b := (x0 + 3)) rfl ff_X0_18 dX0_apply_62 rfl hOK g8.2 g8.1 rfl rfl ?_
      refine g_iload_n (q0 := 66) (j := 2) rfl dX0_apply_65 rfl ?_
      refine g_iald (q0 := 67) rfl dX0_apply_66 sn9 g10.1 g10.2 ?_
      obtain ⟨g13, h⟩ := h
      obtain ⟨P67, e67, h⟩ := h
      refine g_callVm (as := [_, _]) (rest := []) mt_X10_put mi_X10_put se_X10_put ml_X0_81 dX0_apply_67 (q0 := 70) rfl rfl g13.1 rfl rfl e67 rfl ⟨by decide, by decide⟩ (Nat.le_of_ble_eq_true rfl) ⟨Nat.zero_le _, Nat.zero_le _⟩ (fun r67 M67 hP67 hw67 hMw67 => ?_)
      obtain ⟨hr67, hOK14, h⟩ := h r67 M67 hP67
      subst hr67
      refine g_iincw (q0 := 73) (lv2 := [_, _, _]) rfl dX0_apply_70 rfl (by decide) rfl rfl ?_
      refine g_goto (tgt := 37) dX0_apply_73 (by decide) ?_
      exact h
theorem w_X0_apply {sh : gS} {Q : Option gV → gS → gM → Prop} {a0 a1 : Int} {M : gM} (hOK : gOK sh M) (h : (P_X0_apply_2 sh Q a0 a1 0 M)) : gC (gr 1 24) yX0_apply cX0_apply 3 none [(4, a0), (4, a1)] sh M Q := by
  refine gC_ofA (lv := [_, _, _]) (by decide +kernel) (Nat.le_of_ble_eq_true rfl) rfl (fun hMw hav => ?_)
  refine g_iconst (q0 := 1) rfl dX0_apply_0 (k := ?_)
  refine g_istore_n (q0 := 2) (j := 2) (lv2 := [_, _, _]) rfl dX0_apply_1 (by decide) rfl rfl ?_
  exact h
-- ==== X0_pairUp
theorem dX0_pairUp_0 : decode cX0_pairUp 0 = .ok (.aload_n 0, 1) := by decide +kernel
theorem dX0_pairUp_1 : decode cX0_pairUp 1 = .ok (.iconst 0, 1) := by decide +kernel
theorem dX0_pairUp_2 : decode cX0_pairUp 2 = .ok (.putfield 59, 3) := by decide +kernel
theorem dX0_pairUp_5 : decode cX0_pairUp 5 = .ok (.aload_n 0, 1) := by decide +kernel
theorem dX0_pairUp_6 : decode cX0_pairUp 6 = .ok (.invokevirtual 85, 3) := by decide +kernel
theorem dX0_pairUp_9 : decode cX0_pairUp 9 = .ok (.iconst 0, 1) := by decide +kernel
theorem dX0_pairUp_10 : decode cX0_pairUp 10 = .ok (.istore_n 1, 1) := by decide +kernel
theorem dX0_pairUp_11 : decode cX0_pairUp 11 = .ok (.iload_n 1, 1) := by decide +kernel
theorem dX0_pairUp_12 : decode cX0_pairUp 12 = .ok (.aload_n 0, 1) := by decide +kernel
theorem dX0_pairUp_13 : decode cX0_pairUp 13 = .ok (.getfield 88, 3) := by decide +kernel
theorem dX0_pairUp_16 : decode cX0_pairUp 16 = .ok (.if_icmp .ge 62, 3) := by decide +kernel
theorem dX0_pairUp_19 : decode cX0_pairUp 19 = .ok (.iconst 0, 1) := by decide +kernel
theorem dX0_pairUp_20 : decode cX0_pairUp 20 = .ok (.istore_n 2, 1) := by decide +kernel
theorem dX0_pairUp_21 : decode cX0_pairUp 21 = .ok (.iload_n 2, 1) := by decide +kernel
theorem dX0_pairUp_22 : decode cX0_pairUp 22 = .ok (.aload_n 0, 1) := by decide +kernel
theorem dX0_pairUp_23 : decode cX0_pairUp 23 = .ok (.getfield 91, 3) := by decide +kernel
theorem dX0_pairUp_26 : decode cX0_pairUp 26 = .ok (.if_icmp .ge 46, 3) := by decide +kernel
theorem dX0_pairUp_29 : decode cX0_pairUp 29 = .ok (.aload_n 0, 1) := by decide +kernel
theorem dX0_pairUp_30 : decode cX0_pairUp 30 = .ok (.getfield 43, 3) := by decide +kernel
theorem dX0_pairUp_33 : decode cX0_pairUp 33 = .ok (.iload_n 1, 1) := by decide +kernel
theorem dX0_pairUp_34 : decode cX0_pairUp 34 = .ok (.bipush 16, 2) := by decide +kernel
theorem dX0_pairUp_36 : decode cX0_pairUp 36 = .ok (.imul, 1) := by decide +kernel
theorem dX0_pairUp_37 : decode cX0_pairUp 37 = .ok (.iload_n 2, 1) := by decide +kernel
theorem dX0_pairUp_38 : decode cX0_pairUp 38 = .ok (.iadd, 1) := by decide +kernel
theorem dX0_pairUp_39 : decode cX0_pairUp 39 = .ok (.aload_n 0, 1) := by decide +kernel
theorem dX0_pairUp_40 : decode cX0_pairUp 40 = .ok (.aload_n 0, 1) := by decide +kernel
theorem dX0_pairUp_41 : decode cX0_pairUp 41 = .ok (.getfield 15, 3) := by decide +kernel
theorem dX0_pairUp_44 : decode cX0_pairUp 44 = .ok (.aload_n 0, 1) := by decide +kernel
theorem dX0_pairUp_45 : decode cX0_pairUp 45 = .ok (.getfield 37, 3) := by decide +kernel
theorem dX0_pairUp_48 : decode cX0_pairUp 48 = .ok (.iload_n 1, 1) := by decide +kernel
theorem dX0_pairUp_49 : decode cX0_pairUp 49 = .ok (.iaload, 1) := by decide +kernel
theorem dX0_pairUp_50 : decode cX0_pairUp 50 = .ok (.iaload, 1) := by decide +kernel
theorem dX0_pairUp_51 : decode cX0_pairUp 51 = .ok (.aload_n 0, 1) := by decide +kernel
theorem dX0_pairUp_52 : decode cX0_pairUp 52 = .ok (.getfield 18, 3) := by decide +kernel
theorem dX0_pairUp_55 : decode cX0_pairUp 55 = .ok (.aload_n 0, 1) := by decide +kernel
theorem dX0_pairUp_56 : decode cX0_pairUp 56 = .ok (.getfield 40, 3) := by decide +kernel
theorem dX0_pairUp_59 : decode cX0_pairUp 59 = .ok (.iload_n 2, 1) := by decide +kernel
theorem dX0_pairUp_60 : decode cX0_pairUp 60 = .ok (.iaload, 1) := by decide +kernel
theorem dX0_pairUp_61 : decode cX0_pairUp 61 = .ok (.iaload, 1) := by decide +kernel
theorem dX0_pairUp_62 : decode cX0_pairUp 62 = .ok (.invokevirtual 94, 3) := by decide +kernel
theorem dX0_pairUp_65 : decode cX0_pairUp 65 = .ok (.fastore, 1) := by decide +kernel
theorem dX0_pairUp_66 : decode cX0_pairUp 66 = .ok (.iinc 2 1, 3) := by decide +kernel
theorem dX0_pairUp_69 : decode cX0_pairUp 69 = .ok (.goto (-48), 3) := by decide +kernel
theorem dX0_pairUp_72 : decode cX0_pairUp 72 = .ok (.iinc 1 1, 3) := by decide +kernel
theorem dX0_pairUp_75 : decode cX0_pairUp 75 = .ok (.goto (-64), 3) := by decide +kernel
theorem dX0_pairUp_78 : decode cX0_pairUp 78 = .ok (.iconst 0, 1) := by decide +kernel
theorem dX0_pairUp_79 : decode cX0_pairUp 79 = .ok (.istore_n 1, 1) := by decide +kernel
theorem dX0_pairUp_80 : decode cX0_pairUp 80 = .ok (.iload_n 1, 1) := by decide +kernel
theorem dX0_pairUp_81 : decode cX0_pairUp 81 = .ok (.bipush 16, 2) := by decide +kernel
theorem dX0_pairUp_83 : decode cX0_pairUp 83 = .ok (.if_icmp .ge 17, 3) := by decide +kernel
theorem dX0_pairUp_86 : decode cX0_pairUp 86 = .ok (.aload_n 0, 1) := by decide +kernel
theorem dX0_pairUp_87 : decode cX0_pairUp 87 = .ok (.invokevirtual 98, 3) := by decide +kernel
theorem dX0_pairUp_90 : decode cX0_pairUp 90 = .ok (.ifCond .ne 4, 3) := by decide +kernel
theorem dX0_pairUp_93 : decode cX0_pairUp 93 = .ok (.return_, 1) := by decide +kernel
theorem dX0_pairUp_94 : decode cX0_pairUp 94 = .ok (.iinc 1 1, 3) := by decide +kernel
theorem dX0_pairUp_97 : decode cX0_pairUp 97 = .ok (.goto (-17), 3) := by decide +kernel
theorem dX0_pairUp_100 : decode cX0_pairUp 100 = .ok (.return_, 1) := by decide +kernel
def P_X0_pairUp_11 (sh : gS) (Q : Option gV → gS → gM → Prop) (x0 x1 : Int) (M : gM) : Prop := gA (gr 3 73) yX0_pairUp cX0_pairUp 3 none Q (0, 0) 11 [(4, x0), (0, x1), (9, 0)] [] sh M
def P_X0_pairUp_21 (sh : gS) (Q : Option gV → gS → gM → Prop) (x0 x1 x2 : Int) (M : gM) : Prop := gA (gr 3 73) yX0_pairUp cX0_pairUp 3 none Q (0, 0) 21 [(4, x0), (0, x1), (0, x2)] [] sh M
def P_X0_pairUp_80 (sh : gS) (Q : Option gV → gS → gM → Prop) (x0 x1 : Int) (M : gM) : Prop := gA (gr 3 73) yX0_pairUp cX0_pairUp 3 none Q (0, 0) 80 [(4, x0), (0, x1), (9, 0)] [] sh M
theorem w_X0_pairUp_11 {sh : gS} {Q : Option gV → gS → gM → Prop} {x0 x1 : Int} {M : gM} (hOK : gOK sh M) (h : ((gsh sh x0 = some (0, 1) ∧ x0 < 758) ∧
    (if x1 < (M x0 10) then
      (P_X0_pairUp_21 sh Q x0 x1 0 M)
    else
      (P_X0_pairUp_80 sh Q x0 0 M)))) : P_X0_pairUp_11 sh Q x0 x1 M := by
  unfold P_X0_pairUp_11
  refine g_iload_n (q0 := 12) (j := 1) rfl dX0_pairUp_11 rfl ?_
  refine g_aload_n (q0 := 13) (j := 0) rfl dX0_pairUp_12 rfl ?_
  obtain ⟨g1, h⟩ := h
  refine g_getf (q0 := 16) (t := 0) (fi := 10) rfl rfl ff_X0_88 dX0_pairUp_13 rfl g1.1 ?_
  refine g_icmp_ge (q0 := 19) (tgt := 78) rfl dX0_pairUp_16 (by decide) (fun h16 => ?_) (fun h16 => ?_)
  · replace h := wI_neg (Int.not_lt.mpr h16) h
    refine g_iconst (q0 := 79) rfl dX0_pairUp_78 (k := ?_)
    refine g_istore_n (q0 := 80) (j := 1) (lv2 := [_, _, _]) rfl dX0_pairUp_79 (by decide) rfl rfl ?_
    exact h
  · replace h := wI_pos h16 h
    refine g_iconst (q0 := 20) rfl dX0_pairUp_19 (k := ?_)
    refine g_istore_n (q0 := 21) (j := 2) (lv2 := [_, _, _]) rfl dX0_pairUp_20 (by decide) rfl rfl ?_
    exact h
theorem w_X0_pairUp_21 {sh : gS} {Q : Option gV → gS → gM → Prop} {x0 x1 x2 : Int} {M : gM} (hOK : gOK sh M) (h : ((gsh sh x0 = some (0, 1) ∧ x0 < 758) ∧
    (if x2 < (M x0 11) then
      (∃ n3 : Nat, gsh sh (x0 + 9) = some (1, n3) ∧
        ((0 ≤ x1 ∧ x1 < (n3 : Int)) ∧
          (∃ n5 : Nat, gsh sh (x0 + 2) = some (1, n5) ∧
            ((0 ≤ (M (x0 + 9) x1) ∧ (M (x0 + 9) x1) < (n5 : Int)) ∧
              (∃ n7 : Nat, gsh sh (x0 + 10) = some (1, n7) ∧
                ((0 ≤ x2 ∧ x2 < (n7 : Int)) ∧
                  (∃ n9 : Nat, gsh sh (x0 + 3) = some (1, n9) ∧
                    ((0 ≤ (M (x0 + 10) x2) ∧ (M (x0 + 10) x2) < (n9 : Int)) ∧
                      (∃ P62 : Option gV → gM → Prop, gC (gr 2 49) yX0_alike cX0_alike 5 (some (.float)) [(4, x0), (0, (M (x0 + 2) (M (x0 + 9) x1))), (0, (M (x0 + 3) (M (x0 + 10) x2)))] sh M (gPm sh P62) ∧ ∀ (r62 : Option gV) (M62 : gM), P62 r62 M62 → ∃ v62 : Int, r62 = some (2, v62) ∧ gOK sh M62 ∧
                        (∃ n12 : Nat, gsh sh (x0 + 11) = some (5, n12) ∧
                          ((0 ≤ (gw32 ((gw32 (x1 * (16 : Int))) + x2)) ∧ (gw32 ((gw32 (x1 * (16 : Int))) + x2)) < (n12 : Int)) ∧
                            (P_X0_pairUp_21 sh Q x0 x1 (gw32 (x2 + 1)) (gU M62 (x0 + 11) (gw32 ((gw32 (x1 * (16 : Int))) + x2)) v62)))))))))))))
    else
      (P_X0_pairUp_11 sh Q x0 (gw32 (x1 + 1)) M)))) : P_X0_pairUp_21 sh Q x0 x1 x2 M := by
  unfold P_X0_pairUp_21
  refine g_iload_n (q0 := 22) (j := 2) rfl dX0_pairUp_21 rfl ?_
  refine g_aload_n (q0 := 23) (j := 0) rfl dX0_pairUp_22 rfl ?_
  obtain ⟨g2, h⟩ := h
  refine g_getf (q0 := 26) (t := 0) (fi := 11) rfl rfl ff_X0_91 dX0_pairUp_23 rfl g2.1 ?_
  refine g_icmp_ge (q0 := 29) (tgt := 72) rfl dX0_pairUp_26 (by decide) (fun h26 => ?_) (fun h26 => ?_)
  · replace h := wI_neg (Int.not_lt.mpr h26) h
    refine g_iincw (q0 := 75) (lv2 := [_, _, _]) rfl dX0_pairUp_72 rfl (by decide) rfl rfl ?_
    refine g_goto (tgt := 11) dX0_pairUp_75 (by decide) ?_
    refine gA_jk (lv1 := [_, _, (9, 0)]) ⟨.inl rfl, .inl rfl, .inr rfl, trivial⟩ ?_
    exact h
  · replace h := wI_pos h26 h
    refine g_aload_n (q0 := 30) (j := 0) rfl dX0_pairUp_29 rfl ?_
    refine g_getp (q0 := 33) (b := (x0 + 11)) rfl ff_X0_43 dX0_pairUp_30 rfl hOK g2.2 g2.1 rfl rfl ?_
    refine g_iload_n (q0 := 34) (j := 1) rfl dX0_pairUp_33 rfl ?_
    refine g_bipush (q0 := 36) rfl dX0_pairUp_34 (k := ?_)
    refine g_imulw (q0 := 37) rfl dX0_pairUp_36 ?_
    refine g_iload_n (q0 := 38) (j := 2) rfl dX0_pairUp_37 rfl ?_
    refine g_iaddw (q0 := 39) rfl dX0_pairUp_38 ?_
    refine g_aload_n (q0 := 40) (j := 0) rfl dX0_pairUp_39 rfl ?_
    refine g_aload_n (q0 := 41) (j := 0) rfl dX0_pairUp_40 rfl ?_
    refine g_getp (q0 := 44) (b := (x0 + 2)) rfl ff_X0_15 dX0_pairUp_41 rfl hOK g2.2 g2.1 rfl rfl ?_
    refine g_aload_n (q0 := 45) (j := 0) rfl dX0_pairUp_44 rfl ?_
    refine g_getp (q0 := 48) (b := (x0 + 9)) rfl ff_X0_37 dX0_pairUp_45 rfl hOK g2.2 g2.1 rfl rfl ?_
    refine g_iload_n (q0 := 49) (j := 1) rfl dX0_pairUp_48 rfl ?_
    obtain ⟨n3, sn3, h⟩ := h
    obtain ⟨g4, h⟩ := h
    refine g_iald (q0 := 50) rfl dX0_pairUp_49 sn3 g4.1 g4.2 ?_
    obtain ⟨n5, sn5, h⟩ := h
    obtain ⟨g6, h⟩ := h
    refine g_iald (q0 := 51) rfl dX0_pairUp_50 sn5 g6.1 g6.2 ?_
    refine g_aload_n (q0 := 52) (j := 0) rfl dX0_pairUp_51 rfl ?_
    refine g_getp (q0 := 55) (b := (x0 + 3)) rfl ff_X0_18 dX0_pairUp_52 rfl hOK g2.2 g2.1 rfl rfl ?_
    refine g_aload_n (q0 := 56) (j := 0) rfl dX0_pairUp_55 rfl ?_
    refine g_getp (q0 := 59) (b := (x0 + 10)) rfl ff_X0_40 dX0_pairUp_56 rfl hOK g2.2 g2.1 rfl rfl ?_
    refine g_iload_n (q0 := 60) (j := 2) rfl dX0_pairUp_59 rfl ?_
    obtain ⟨n7, sn7, h⟩ := h
    obtain ⟨g8, h⟩ := h
    refine g_iald (q0 := 61) rfl dX0_pairUp_60 sn7 g8.1 g8.2 ?_
    obtain ⟨n9, sn9, h⟩ := h
    obtain ⟨g10, h⟩ := h
    refine g_iald (q0 := 62) rfl dX0_pairUp_61 sn9 g10.1 g10.2 ?_
    obtain ⟨P62, e62, h⟩ := h
    refine g_callVm (as := [_, _]) (rest := [_, _]) mt_X0_alike mi_X0_alike se_X0_alike ml_X0_94 dX0_pairUp_62 (q0 := 65) rfl rfl g2.1 rfl rfl e62 rfl ⟨by decide, by decide⟩ (Nat.le_of_ble_eq_true rfl) ⟨Nat.zero_le _, Nat.zero_le _⟩ (fun r62 M62 hP62 hw62 hMw62 => ?_)
    obtain ⟨v62, hr62, hOK11, h⟩ := h r62 M62 hP62
    subst hr62
    obtain ⟨n12, sn12, h⟩ := h
    obtain ⟨g13, h⟩ := h
    refine g_fast (q0 := 66) rfl dX0_pairUp_65 sn12 g13.1 g13.2 ?_
    have hOK14 : gOK sh (gU M62 (x0 + 11) (gw32 ((gw32 (x1 * (16 : Int))) + x2)) v62) := gOK_f hOK11 sn12
    refine g_iincw (q0 := 69) (lv2 := [_, _, _]) rfl dX0_pairUp_66 rfl (by decide) rfl rfl ?_
    refine g_goto (tgt := 21) dX0_pairUp_69 (by decide) ?_
    exact h
theorem w_X0_pairUp_80 {sh : gS} {Q : Option gV → gS → gM → Prop} {x0 x1 : Int} {M : gM} (hOK : gOK sh M) (h : (if x1 < 16 then
    ((gsh sh x0 = some (0, 1) ∧ x0 < 758) ∧
      (∃ P87 : Option gV → gM → Prop, gC (gr 0 0) yX0_pairNext cX0_pairNext 7 (some (.boolean)) [(4, x0)] sh M (gPm sh P87) ∧ ∀ (r87 : Option gV) (M87 : gM), P87 r87 M87 → ∃ v87 : Int, r87 = some (0, v87) ∧ gOK sh M87 ∧
        (if v87 = 0 then
          (Q none sh M87)
        else
          (P_X0_pairUp_80 sh Q x0 (gw32 (x1 + 1)) M87))))
  else
    (Q none sh M))) : P_X0_pairUp_80 sh Q x0 x1 M := by
  unfold P_X0_pairUp_80
  refine g_iload_n (q0 := 81) (j := 1) rfl dX0_pairUp_80 rfl ?_
  refine g_bipush (q0 := 83) rfl dX0_pairUp_81 (k := ?_)
  refine g_icmp_ge (q0 := 86) (tgt := 100) rfl dX0_pairUp_83 (by decide) (fun h83 => ?_) (fun h83 => ?_)
  · replace h := wI_neg (Int.not_lt.mpr h83) h
    exact g_return dX0_pairUp_100 rfl ⟨Nat.zero_le _, Nat.zero_le _⟩ h
  · replace h := wI_pos h83 h
    refine g_aload_n (q0 := 87) (j := 0) rfl dX0_pairUp_86 rfl ?_
    obtain ⟨g15, h⟩ := h
    obtain ⟨P87, e87, h⟩ := h
    refine g_callVm (as := []) (rest := []) mt_X0_pairNext mi_X0_pairNext se_X0_pairNext ml_X0_98 dX0_pairUp_87 (q0 := 90) rfl rfl g15.1 rfl rfl e87 rfl ⟨by decide, by decide⟩ (Nat.le_of_ble_eq_true rfl) ⟨Nat.zero_le _, Nat.zero_le _⟩ (fun r87 M87 hP87 hw87 hMw87 => ?_)
    obtain ⟨v87, hr87, hOK16, h⟩ := h r87 M87 hP87
    subst hr87
    refine g_if_ne (q0 := 93) (tgt := 94) rfl dX0_pairUp_90 (by decide) (fun h90 => ?_) (fun h90 => ?_)
    · replace h := wI_neg h90 h
      refine g_iincw (q0 := 97) (lv2 := [_, _, _]) rfl dX0_pairUp_94 rfl (by decide) rfl rfl ?_
      refine g_goto (tgt := 80) dX0_pairUp_97 (by decide) ?_
      exact h
    · replace h := wI_pos h90 h
      exact g_return dX0_pairUp_93 rfl ⟨Nat.zero_le _, Nat.zero_le _⟩ h
theorem w_X0_pairUp {sh : gS} {Q : Option gV → gS → gM → Prop} {a0 : Int} {M : gM} (hOK : gOK sh M) (h : ((gsh sh a0 = some (0, 1) ∧ a0 < 758) ∧
    (∃ P6 : Option gV → gM → Prop, gC (gr 0 0) yX0_gather cX0_gather 2 none [(4, a0)] sh (gU M a0 6 0) (gPm sh P6) ∧ ∀ (r6 : Option gV) (M6 : gM), P6 r6 M6 → r6 = none ∧ gOK sh M6 ∧
      (P_X0_pairUp_11 sh Q a0 0 M6)))) : gC (gr 3 73) yX0_pairUp cX0_pairUp 3 none [(4, a0)] sh M Q := by
  refine gC_ofA (lv := [_, _, _]) (by decide +kernel) (Nat.le_of_ble_eq_true rfl) rfl (fun hMw hav => ?_)
  refine g_aload_n (q0 := 1) (j := 0) rfl dX0_pairUp_0 rfl ?_
  refine g_iconst (q0 := 2) rfl dX0_pairUp_1 (k := ?_)
  obtain ⟨g17, h⟩ := h
  refine g_put (q0 := 5) (t := 0) (fi := 6) rfl rfl ff_X0_59 dX0_pairUp_2 rfl g17.1 rfl (fun _ => ⟨rfl, rfl⟩) ?_
  have hOK18 : gOK sh (gU M a0 6 0) := gOK_o hOK g17.1 (f := 6) rfl rfl
  refine g_aload_n (q0 := 6) (j := 0) rfl dX0_pairUp_5 rfl ?_
  obtain ⟨P6, e6, h⟩ := h
  refine g_callVm (as := []) (rest := []) mt_X0_gather mi_X0_gather se_X0_gather ml_X0_85 dX0_pairUp_6 (q0 := 9) rfl rfl g17.1 rfl rfl e6 rfl ⟨by decide, by decide⟩ (Nat.le_of_ble_eq_true rfl) ⟨Nat.zero_le _, Nat.zero_le _⟩ (fun r6 M6 hP6 hw6 hMw6 => ?_)
  obtain ⟨hr6, hOK19, h⟩ := h r6 M6 hP6
  subst hr6
  refine g_iconst (q0 := 10) rfl dX0_pairUp_9 (k := ?_)
  refine g_istore_n (q0 := 11) (j := 1) (lv2 := [_, _, _]) rfl dX0_pairUp_10 (by decide) rfl rfl ?_
  exact h
-- ==== X0_gather
theorem dX0_gather_0 : decode cX0_gather 0 = .ok (.aload_n 0, 1) := by decide +kernel
theorem dX0_gather_1 : decode cX0_gather 1 = .ok (.iconst 0, 1) := by decide +kernel
theorem dX0_gather_2 : decode cX0_gather 2 = .ok (.putfield 88, 3) := by decide +kernel
theorem dX0_gather_5 : decode cX0_gather 5 = .ok (.aload_n 0, 1) := by decide +kernel
theorem dX0_gather_6 : decode cX0_gather 6 = .ok (.iconst 0, 1) := by decide +kernel
theorem dX0_gather_7 : decode cX0_gather 7 = .ok (.putfield 91, 3) := by decide +kernel
theorem dX0_gather_10 : decode cX0_gather 10 = .ok (.iconst 0, 1) := by decide +kernel
theorem dX0_gather_11 : decode cX0_gather 11 = .ok (.istore_n 1, 1) := by decide +kernel
theorem dX0_gather_12 : decode cX0_gather 12 = .ok (.iload_n 1, 1) := by decide +kernel
theorem dX0_gather_13 : decode cX0_gather 13 = .ok (.aload_n 0, 1) := by decide +kernel
theorem dX0_gather_14 : decode cX0_gather 14 = .ok (.getfield 55, 3) := by decide +kernel
theorem dX0_gather_17 : decode cX0_gather 17 = .ok (.if_icmp .ge 88, 3) := by decide +kernel
theorem dX0_gather_20 : decode cX0_gather 20 = .ok (.aload_n 0, 1) := by decide +kernel
theorem dX0_gather_21 : decode cX0_gather 21 = .ok (.getfield 18, 3) := by decide +kernel
theorem dX0_gather_24 : decode cX0_gather 24 = .ok (.iload_n 1, 1) := by decide +kernel
theorem dX0_gather_25 : decode cX0_gather 25 = .ok (.iaload, 1) := by decide +kernel
theorem dX0_gather_26 : decode cX0_gather 26 = .ok (.ifCond .ne 35, 3) := by decide +kernel
theorem dX0_gather_29 : decode cX0_gather 29 = .ok (.aload_n 0, 1) := by decide +kernel
theorem dX0_gather_30 : decode cX0_gather 30 = .ok (.getfield 88, 3) := by decide +kernel
theorem dX0_gather_33 : decode cX0_gather 33 = .ok (.bipush 16, 2) := by decide +kernel
theorem dX0_gather_35 : decode cX0_gather 35 = .ok (.if_icmp .ge 26, 3) := by decide +kernel
theorem dX0_gather_38 : decode cX0_gather 38 = .ok (.aload_n 0, 1) := by decide +kernel
theorem dX0_gather_39 : decode cX0_gather 39 = .ok (.getfield 37, 3) := by decide +kernel
theorem dX0_gather_42 : decode cX0_gather 42 = .ok (.aload_n 0, 1) := by decide +kernel
theorem dX0_gather_43 : decode cX0_gather 43 = .ok (.getfield 88, 3) := by decide +kernel
theorem dX0_gather_46 : decode cX0_gather 46 = .ok (.iload_n 1, 1) := by decide +kernel
theorem dX0_gather_47 : decode cX0_gather 47 = .ok (.iastore, 1) := by decide +kernel
theorem dX0_gather_48 : decode cX0_gather 48 = .ok (.aload_n 0, 1) := by decide +kernel
theorem dX0_gather_49 : decode cX0_gather 49 = .ok (.dup, 1) := by decide +kernel
theorem dX0_gather_50 : decode cX0_gather 50 = .ok (.getfield 88, 3) := by decide +kernel
theorem dX0_gather_53 : decode cX0_gather 53 = .ok (.iconst 1, 1) := by decide +kernel
theorem dX0_gather_54 : decode cX0_gather 54 = .ok (.iadd, 1) := by decide +kernel
theorem dX0_gather_55 : decode cX0_gather 55 = .ok (.putfield 88, 3) := by decide +kernel
theorem dX0_gather_58 : decode cX0_gather 58 = .ok (.goto 41, 3) := by decide +kernel
theorem dX0_gather_61 : decode cX0_gather 61 = .ok (.aload_n 0, 1) := by decide +kernel
theorem dX0_gather_62 : decode cX0_gather 62 = .ok (.getfield 15, 3) := by decide +kernel
theorem dX0_gather_65 : decode cX0_gather 65 = .ok (.iload_n 1, 1) := by decide +kernel
theorem dX0_gather_66 : decode cX0_gather 66 = .ok (.iaload, 1) := by decide +kernel
theorem dX0_gather_67 : decode cX0_gather 67 = .ok (.ifCond .ne 32, 3) := by decide +kernel
theorem dX0_gather_70 : decode cX0_gather 70 = .ok (.aload_n 0, 1) := by decide +kernel
theorem dX0_gather_71 : decode cX0_gather 71 = .ok (.getfield 91, 3) := by decide +kernel
theorem dX0_gather_74 : decode cX0_gather 74 = .ok (.bipush 16, 2) := by decide +kernel
theorem dX0_gather_76 : decode cX0_gather 76 = .ok (.if_icmp .ge 23, 3) := by decide +kernel
theorem dX0_gather_79 : decode cX0_gather 79 = .ok (.aload_n 0, 1) := by decide +kernel
theorem dX0_gather_80 : decode cX0_gather 80 = .ok (.getfield 40, 3) := by decide +kernel
theorem dX0_gather_83 : decode cX0_gather 83 = .ok (.aload_n 0, 1) := by decide +kernel
theorem dX0_gather_84 : decode cX0_gather 84 = .ok (.getfield 91, 3) := by decide +kernel
theorem dX0_gather_87 : decode cX0_gather 87 = .ok (.iload_n 1, 1) := by decide +kernel
theorem dX0_gather_88 : decode cX0_gather 88 = .ok (.iastore, 1) := by decide +kernel
theorem dX0_gather_89 : decode cX0_gather 89 = .ok (.aload_n 0, 1) := by decide +kernel
theorem dX0_gather_90 : decode cX0_gather 90 = .ok (.dup, 1) := by decide +kernel
theorem dX0_gather_91 : decode cX0_gather 91 = .ok (.getfield 91, 3) := by decide +kernel
theorem dX0_gather_94 : decode cX0_gather 94 = .ok (.iconst 1, 1) := by decide +kernel
theorem dX0_gather_95 : decode cX0_gather 95 = .ok (.iadd, 1) := by decide +kernel
theorem dX0_gather_96 : decode cX0_gather 96 = .ok (.putfield 91, 3) := by decide +kernel
theorem dX0_gather_99 : decode cX0_gather 99 = .ok (.iinc 1 1, 3) := by decide +kernel
theorem dX0_gather_102 : decode cX0_gather 102 = .ok (.goto (-90), 3) := by decide +kernel
theorem dX0_gather_105 : decode cX0_gather 105 = .ok (.return_, 1) := by decide +kernel
def P_X0_gather_12 (sh : gS) (Q : Option gV → gS → gM → Prop) (x0 x1 : Int) (M : gM) : Prop := gA (gr 0 0) yX0_gather cX0_gather 2 none Q (0, 0) 12 [(4, x0), (0, x1)] [] sh M
def P_X0_gather_61 (sh : gS) (Q : Option gV → gS → gM → Prop) (x0 x1 : Int) (M : gM) : Prop := gA (gr 0 0) yX0_gather cX0_gather 2 none Q (0, 0) 61 [(4, x0), (0, x1)] [] sh M
theorem w_X0_gather_12 {sh : gS} {Q : Option gV → gS → gM → Prop} {x0 x1 : Int} {M : gM} (hOK : gOK sh M) (h : ((gsh sh x0 = some (0, 1) ∧ x0 < 758) ∧
    (if x1 < (M x0 0) then
      (∃ n2 : Nat, gsh sh (x0 + 3) = some (1, n2) ∧
        ((0 ≤ x1 ∧ x1 < (n2 : Int)) ∧
          (if (M (x0 + 3) x1) = 0 then
            (if (M x0 10) < 16 then
              (∃ n4 : Nat, gsh sh (x0 + 9) = some (1, n4) ∧
                ((0 ≤ (M x0 10) ∧ (M x0 10) < (n4 : Int)) ∧
                  (P_X0_gather_12 sh Q x0 (gw32 (x1 + 1)) (gU (gU M (x0 + 9) (M x0 10) x1) x0 10 (gw32 (((gU M (x0 + 9) (M x0 10) x1) x0 10) + (1 : Int)))))))
            else
              (P_X0_gather_61 sh Q x0 x1 M))
          else
            (P_X0_gather_61 sh Q x0 x1 M))))
    else
      (Q none sh M)))) : P_X0_gather_12 sh Q x0 x1 M := by
  unfold P_X0_gather_12
  refine g_iload_n (q0 := 13) (j := 1) rfl dX0_gather_12 rfl ?_
  refine g_aload_n (q0 := 14) (j := 0) rfl dX0_gather_13 rfl ?_
  obtain ⟨g1, h⟩ := h
  refine g_getf (q0 := 17) (t := 0) (fi := 0) rfl rfl ff_X0_55 dX0_gather_14 rfl g1.1 ?_
  refine g_icmp_ge (q0 := 20) (tgt := 105) rfl dX0_gather_17 (by decide) (fun h17 => ?_) (fun h17 => ?_)
  · replace h := wI_neg (Int.not_lt.mpr h17) h
    exact g_return dX0_gather_105 rfl ⟨Nat.zero_le _, Nat.zero_le _⟩ h
  · replace h := wI_pos h17 h
    refine g_aload_n (q0 := 21) (j := 0) rfl dX0_gather_20 rfl ?_
    refine g_getp (q0 := 24) (b := (x0 + 3)) rfl ff_X0_18 dX0_gather_21 rfl hOK g1.2 g1.1 rfl rfl ?_
    refine g_iload_n (q0 := 25) (j := 1) rfl dX0_gather_24 rfl ?_
    obtain ⟨n2, sn2, h⟩ := h
    obtain ⟨g3, h⟩ := h
    refine g_iald (q0 := 26) rfl dX0_gather_25 sn2 g3.1 g3.2 ?_
    refine g_if_ne (q0 := 29) (tgt := 61) rfl dX0_gather_26 (by decide) (fun h26 => ?_) (fun h26 => ?_)
    · replace h := wI_neg h26 h
      exact h
    · replace h := wI_pos h26 h
      refine g_aload_n (q0 := 30) (j := 0) rfl dX0_gather_29 rfl ?_
      refine g_getf (q0 := 33) (t := 0) (fi := 10) rfl rfl ff_X0_88 dX0_gather_30 rfl g1.1 ?_
      refine g_bipush (q0 := 35) rfl dX0_gather_33 (k := ?_)
      refine g_icmp_ge (q0 := 38) (tgt := 61) rfl dX0_gather_35 (by decide) (fun h35 => ?_) (fun h35 => ?_)
      · replace h := wI_neg (Int.not_lt.mpr h35) h
        exact h
      · replace h := wI_pos h35 h
        refine g_aload_n (q0 := 39) (j := 0) rfl dX0_gather_38 rfl ?_
        refine g_getp (q0 := 42) (b := (x0 + 9)) rfl ff_X0_37 dX0_gather_39 rfl hOK g1.2 g1.1 rfl rfl ?_
        refine g_aload_n (q0 := 43) (j := 0) rfl dX0_gather_42 rfl ?_
        refine g_getf (q0 := 46) (t := 0) (fi := 10) rfl rfl ff_X0_88 dX0_gather_43 rfl g1.1 ?_
        refine g_iload_n (q0 := 47) (j := 1) rfl dX0_gather_46 rfl ?_
        obtain ⟨n4, sn4, h⟩ := h
        obtain ⟨g5, h⟩ := h
        refine g_iast (q0 := 48) rfl dX0_gather_47 sn4 g5.1 g5.2 ?_
        have hOK6 : gOK sh (gU M (x0 + 9) (M x0 10) x1) := gOK_i hOK sn4
        refine g_aload_n (q0 := 49) (j := 0) rfl dX0_gather_48 rfl ?_
        refine g_dup (q0 := 50) rfl dX0_gather_49 (k := ?_)
        refine g_getf (q0 := 53) (t := 0) (fi := 10) rfl rfl ff_X0_88 dX0_gather_50 rfl g1.1 ?_
        refine g_iconst (q0 := 54) rfl dX0_gather_53 (k := ?_)
        refine g_iaddw (q0 := 55) rfl dX0_gather_54 ?_
        refine g_put (q0 := 58) (t := 0) (fi := 10) rfl rfl ff_X0_88 dX0_gather_55 rfl g1.1 rfl (fun _ => ⟨rfl, rfl⟩) ?_
        have hOK7 : gOK sh (gU (gU M (x0 + 9) (M x0 10) x1) x0 10 (gw32 (((gU M (x0 + 9) (M x0 10) x1) x0 10) + (1 : Int)))) := gOK_o hOK6 g1.1 (f := 10) rfl rfl
        refine g_goto (tgt := 99) dX0_gather_58 (by decide) ?_
        refine g_iincw (q0 := 102) (lv2 := [_, _]) rfl dX0_gather_99 rfl (by decide) rfl rfl ?_
        refine g_goto (tgt := 12) dX0_gather_102 (by decide) ?_
        exact h
theorem w_X0_gather_61 {sh : gS} {Q : Option gV → gS → gM → Prop} {x0 x1 : Int} {M : gM} (hOK : gOK sh M) (h : ((gsh sh x0 = some (0, 1) ∧ x0 < 758) ∧
    (∃ n9 : Nat, gsh sh (x0 + 2) = some (1, n9) ∧
      ((0 ≤ x1 ∧ x1 < (n9 : Int)) ∧
        (if (M (x0 + 2) x1) = 0 then
          (if (M x0 11) < 16 then
            (∃ n11 : Nat, gsh sh (x0 + 10) = some (1, n11) ∧
              ((0 ≤ (M x0 11) ∧ (M x0 11) < (n11 : Int)) ∧
                (P_X0_gather_12 sh Q x0 (gw32 (x1 + 1)) (gU (gU M (x0 + 10) (M x0 11) x1) x0 11 (gw32 (((gU M (x0 + 10) (M x0 11) x1) x0 11) + (1 : Int)))))))
          else
            (P_X0_gather_12 sh Q x0 (gw32 (x1 + 1)) M))
        else
          (P_X0_gather_12 sh Q x0 (gw32 (x1 + 1)) M)))))) : P_X0_gather_61 sh Q x0 x1 M := by
  unfold P_X0_gather_61
  refine g_aload_n (q0 := 62) (j := 0) rfl dX0_gather_61 rfl ?_
  obtain ⟨g8, h⟩ := h
  refine g_getp (q0 := 65) (b := (x0 + 2)) rfl ff_X0_15 dX0_gather_62 rfl hOK g8.2 g8.1 rfl rfl ?_
  refine g_iload_n (q0 := 66) (j := 1) rfl dX0_gather_65 rfl ?_
  obtain ⟨n9, sn9, h⟩ := h
  obtain ⟨g10, h⟩ := h
  refine g_iald (q0 := 67) rfl dX0_gather_66 sn9 g10.1 g10.2 ?_
  refine g_if_ne (q0 := 70) (tgt := 99) rfl dX0_gather_67 (by decide) (fun h67 => ?_) (fun h67 => ?_)
  · replace h := wI_neg h67 h
    refine g_iincw (q0 := 102) (lv2 := [_, _]) rfl dX0_gather_99 rfl (by decide) rfl rfl ?_
    refine g_goto (tgt := 12) dX0_gather_102 (by decide) ?_
    exact h
  · replace h := wI_pos h67 h
    refine g_aload_n (q0 := 71) (j := 0) rfl dX0_gather_70 rfl ?_
    refine g_getf (q0 := 74) (t := 0) (fi := 11) rfl rfl ff_X0_91 dX0_gather_71 rfl g8.1 ?_
    refine g_bipush (q0 := 76) rfl dX0_gather_74 (k := ?_)
    refine g_icmp_ge (q0 := 79) (tgt := 99) rfl dX0_gather_76 (by decide) (fun h76 => ?_) (fun h76 => ?_)
    · replace h := wI_neg (Int.not_lt.mpr h76) h
      refine g_iincw (q0 := 102) (lv2 := [_, _]) rfl dX0_gather_99 rfl (by decide) rfl rfl ?_
      refine g_goto (tgt := 12) dX0_gather_102 (by decide) ?_
      exact h
    · replace h := wI_pos h76 h
      refine g_aload_n (q0 := 80) (j := 0) rfl dX0_gather_79 rfl ?_
      refine g_getp (q0 := 83) (b := (x0 + 10)) rfl ff_X0_40 dX0_gather_80 rfl hOK g8.2 g8.1 rfl rfl ?_
      refine g_aload_n (q0 := 84) (j := 0) rfl dX0_gather_83 rfl ?_
      refine g_getf (q0 := 87) (t := 0) (fi := 11) rfl rfl ff_X0_91 dX0_gather_84 rfl g8.1 ?_
      refine g_iload_n (q0 := 88) (j := 1) rfl dX0_gather_87 rfl ?_
      obtain ⟨n11, sn11, h⟩ := h
      obtain ⟨g12, h⟩ := h
      refine g_iast (q0 := 89) rfl dX0_gather_88 sn11 g12.1 g12.2 ?_
      have hOK13 : gOK sh (gU M (x0 + 10) (M x0 11) x1) := gOK_i hOK sn11
      refine g_aload_n (q0 := 90) (j := 0) rfl dX0_gather_89 rfl ?_
      refine g_dup (q0 := 91) rfl dX0_gather_90 (k := ?_)
      refine g_getf (q0 := 94) (t := 0) (fi := 11) rfl rfl ff_X0_91 dX0_gather_91 rfl g8.1 ?_
      refine g_iconst (q0 := 95) rfl dX0_gather_94 (k := ?_)
      refine g_iaddw (q0 := 96) rfl dX0_gather_95 ?_
      refine g_put (q0 := 99) (t := 0) (fi := 11) rfl rfl ff_X0_91 dX0_gather_96 rfl g8.1 rfl (fun _ => ⟨rfl, rfl⟩) ?_
      have hOK14 : gOK sh (gU (gU M (x0 + 10) (M x0 11) x1) x0 11 (gw32 (((gU M (x0 + 10) (M x0 11) x1) x0 11) + (1 : Int)))) := gOK_o hOK13 g8.1 (f := 11) rfl rfl
      refine g_iincw (q0 := 102) (lv2 := [_, _]) rfl dX0_gather_99 rfl (by decide) rfl rfl ?_
      refine g_goto (tgt := 12) dX0_gather_102 (by decide) ?_
      exact h
theorem w_X0_gather {sh : gS} {Q : Option gV → gS → gM → Prop} {a0 : Int} {M : gM} (hOK : gOK sh M) (h : ((gsh sh a0 = some (0, 1) ∧ a0 < 758) ∧
    (P_X0_gather_12 sh Q a0 0 (gU (gU M a0 10 0) a0 11 0)))) : gC (gr 0 0) yX0_gather cX0_gather 2 none [(4, a0)] sh M Q := by
  refine gC_ofA (lv := [_, _]) (by decide +kernel) (Nat.le_of_ble_eq_true rfl) rfl (fun hMw hav => ?_)
  refine g_aload_n (q0 := 1) (j := 0) rfl dX0_gather_0 rfl ?_
  refine g_iconst (q0 := 2) rfl dX0_gather_1 (k := ?_)
  obtain ⟨g15, h⟩ := h
  refine g_put (q0 := 5) (t := 0) (fi := 10) rfl rfl ff_X0_88 dX0_gather_2 rfl g15.1 rfl (fun _ => ⟨rfl, rfl⟩) ?_
  have hOK16 : gOK sh (gU M a0 10 0) := gOK_o hOK g15.1 (f := 10) rfl rfl
  refine g_aload_n (q0 := 6) (j := 0) rfl dX0_gather_5 rfl ?_
  refine g_iconst (q0 := 7) rfl dX0_gather_6 (k := ?_)
  refine g_put (q0 := 10) (t := 0) (fi := 11) rfl rfl ff_X0_91 dX0_gather_7 rfl g15.1 rfl (fun _ => ⟨rfl, rfl⟩) ?_
  have hOK17 : gOK sh (gU (gU M a0 10 0) a0 11 0) := gOK_o hOK16 g15.1 (f := 11) rfl rfl
  refine g_iconst (q0 := 11) rfl dX0_gather_10 (k := ?_)
  refine g_istore_n (q0 := 12) (j := 1) (lv2 := [_, _]) rfl dX0_gather_11 (by decide) rfl rfl ?_
  exact h
-- ==== X0_pairNext
theorem dX0_pairNext_0 : decode cX0_pairNext 0 = .ok (.iconst (-1), 1) := by decide +kernel
theorem dX0_pairNext_1 : decode cX0_pairNext 1 = .ok (.istore_n 1, 1) := by decide +kernel
theorem dX0_pairNext_2 : decode cX0_pairNext 2 = .ok (.iconst (-1), 1) := by decide +kernel
theorem dX0_pairNext_3 : decode cX0_pairNext 3 = .ok (.istore_n 2, 1) := by decide +kernel
theorem dX0_pairNext_4 : decode cX0_pairNext 4 = .ok (.fconst 0, 1) := by decide +kernel
theorem dX0_pairNext_5 : decode cX0_pairNext 5 = .ok (.fstore_n 3, 1) := by decide +kernel
theorem dX0_pairNext_6 : decode cX0_pairNext 6 = .ok (.iconst 0, 1) := by decide +kernel
theorem dX0_pairNext_7 : decode cX0_pairNext 7 = .ok (.istore 4, 2) := by decide +kernel
theorem dX0_pairNext_9 : decode cX0_pairNext 9 = .ok (.iload 4, 2) := by decide +kernel
theorem dX0_pairNext_11 : decode cX0_pairNext 11 = .ok (.aload_n 0, 1) := by decide +kernel
theorem dX0_pairNext_12 : decode cX0_pairNext 12 = .ok (.getfield 88, 3) := by decide +kernel
theorem dX0_pairNext_15 : decode cX0_pairNext 15 = .ok (.if_icmp .ge 66, 3) := by decide +kernel
theorem dX0_pairNext_18 : decode cX0_pairNext 18 = .ok (.iconst 0, 1) := by decide +kernel
theorem dX0_pairNext_19 : decode cX0_pairNext 19 = .ok (.istore 5, 2) := by decide +kernel
theorem dX0_pairNext_21 : decode cX0_pairNext 21 = .ok (.iload 5, 2) := by decide +kernel
theorem dX0_pairNext_23 : decode cX0_pairNext 23 = .ok (.aload_n 0, 1) := by decide +kernel
theorem dX0_pairNext_24 : decode cX0_pairNext 24 = .ok (.getfield 91, 3) := by decide +kernel
theorem dX0_pairNext_27 : decode cX0_pairNext 27 = .ok (.if_icmp .ge 48, 3) := by decide +kernel
theorem dX0_pairNext_30 : decode cX0_pairNext 30 = .ok (.aload_n 0, 1) := by decide +kernel
theorem dX0_pairNext_31 : decode cX0_pairNext 31 = .ok (.getfield 43, 3) := by decide +kernel
theorem dX0_pairNext_34 : decode cX0_pairNext 34 = .ok (.iload 4, 2) := by decide +kernel
theorem dX0_pairNext_36 : decode cX0_pairNext 36 = .ok (.bipush 16, 2) := by decide +kernel
theorem dX0_pairNext_38 : decode cX0_pairNext 38 = .ok (.imul, 1) := by decide +kernel
theorem dX0_pairNext_39 : decode cX0_pairNext 39 = .ok (.iload 5, 2) := by decide +kernel
theorem dX0_pairNext_41 : decode cX0_pairNext 41 = .ok (.iadd, 1) := by decide +kernel
theorem dX0_pairNext_42 : decode cX0_pairNext 42 = .ok (.faload, 1) := by decide +kernel
theorem dX0_pairNext_43 : decode cX0_pairNext 43 = .ok (.fstore 6, 2) := by decide +kernel
theorem dX0_pairNext_45 : decode cX0_pairNext 45 = .ok (.fload 6, 2) := by decide +kernel
theorem dX0_pairNext_47 : decode cX0_pairNext 47 = .ok (.ldc 102, 2) := by decide +kernel
theorem dX0_pairNext_49 : decode cX0_pairNext 49 = .ok (.fcmp .l, 1) := by decide +kernel
theorem dX0_pairNext_50 : decode cX0_pairNext 50 = .ok (.ifCond .lt 19, 3) := by decide +kernel
theorem dX0_pairNext_53 : decode cX0_pairNext 53 = .ok (.fload 6, 2) := by decide +kernel
theorem dX0_pairNext_55 : decode cX0_pairNext 55 = .ok (.fload_n 3, 1) := by decide +kernel
theorem dX0_pairNext_56 : decode cX0_pairNext 56 = .ok (.fcmp .l, 1) := by decide +kernel
theorem dX0_pairNext_57 : decode cX0_pairNext 57 = .ok (.ifCond .le 12, 3) := by decide +kernel
theorem dX0_pairNext_60 : decode cX0_pairNext 60 = .ok (.iload 4, 2) := by decide +kernel
theorem dX0_pairNext_62 : decode cX0_pairNext 62 = .ok (.istore_n 1, 1) := by decide +kernel
theorem dX0_pairNext_63 : decode cX0_pairNext 63 = .ok (.iload 5, 2) := by decide +kernel
theorem dX0_pairNext_65 : decode cX0_pairNext 65 = .ok (.istore_n 2, 1) := by decide +kernel
theorem dX0_pairNext_66 : decode cX0_pairNext 66 = .ok (.fload 6, 2) := by decide +kernel
theorem dX0_pairNext_68 : decode cX0_pairNext 68 = .ok (.fstore_n 3, 1) := by decide +kernel
theorem dX0_pairNext_69 : decode cX0_pairNext 69 = .ok (.iinc 5 1, 3) := by decide +kernel
theorem dX0_pairNext_72 : decode cX0_pairNext 72 = .ok (.goto (-51), 3) := by decide +kernel
theorem dX0_pairNext_75 : decode cX0_pairNext 75 = .ok (.iinc 4 1, 3) := by decide +kernel
theorem dX0_pairNext_78 : decode cX0_pairNext 78 = .ok (.goto (-69), 3) := by decide +kernel
theorem dX0_pairNext_81 : decode cX0_pairNext 81 = .ok (.iload_n 1, 1) := by decide +kernel
theorem dX0_pairNext_82 : decode cX0_pairNext 82 = .ok (.ifCond .lt 16, 3) := by decide +kernel
theorem dX0_pairNext_85 : decode cX0_pairNext 85 = .ok (.iload_n 2, 1) := by decide +kernel
theorem dX0_pairNext_86 : decode cX0_pairNext 86 = .ok (.ifCond .lt 12, 3) := by decide +kernel
theorem dX0_pairNext_89 : decode cX0_pairNext 89 = .ok (.aload_n 0, 1) := by decide +kernel
theorem dX0_pairNext_90 : decode cX0_pairNext 90 = .ok (.getfield 59, 3) := by decide +kernel
theorem dX0_pairNext_93 : decode cX0_pairNext 93 = .ok (.bipush 16, 2) := by decide +kernel
theorem dX0_pairNext_95 : decode cX0_pairNext 95 = .ok (.if_icmp .lt 5, 3) := by decide +kernel
theorem dX0_pairNext_98 : decode cX0_pairNext 98 = .ok (.iconst 0, 1) := by decide +kernel
theorem dX0_pairNext_99 : decode cX0_pairNext 99 = .ok (.ireturn, 1) := by decide +kernel
theorem dX0_pairNext_100 : decode cX0_pairNext 100 = .ok (.iconst 0, 1) := by decide +kernel
theorem dX0_pairNext_101 : decode cX0_pairNext 101 = .ok (.istore 4, 2) := by decide +kernel
theorem dX0_pairNext_103 : decode cX0_pairNext 103 = .ok (.iload 4, 2) := by decide +kernel
theorem dX0_pairNext_105 : decode cX0_pairNext 105 = .ok (.bipush 16, 2) := by decide +kernel
theorem dX0_pairNext_107 : decode cX0_pairNext 107 = .ok (.if_icmp .ge 35, 3) := by decide +kernel
theorem dX0_pairNext_110 : decode cX0_pairNext 110 = .ok (.aload_n 0, 1) := by decide +kernel
theorem dX0_pairNext_111 : decode cX0_pairNext 111 = .ok (.getfield 43, 3) := by decide +kernel
theorem dX0_pairNext_114 : decode cX0_pairNext 114 = .ok (.iload_n 1, 1) := by decide +kernel
theorem dX0_pairNext_115 : decode cX0_pairNext 115 = .ok (.bipush 16, 2) := by decide +kernel
theorem dX0_pairNext_117 : decode cX0_pairNext 117 = .ok (.imul, 1) := by decide +kernel
theorem dX0_pairNext_118 : decode cX0_pairNext 118 = .ok (.iload 4, 2) := by decide +kernel
theorem dX0_pairNext_120 : decode cX0_pairNext 120 = .ok (.iadd, 1) := by decide +kernel
theorem dX0_pairNext_121 : decode cX0_pairNext 121 = .ok (.fconst 0, 1) := by decide +kernel
theorem dX0_pairNext_122 : decode cX0_pairNext 122 = .ok (.fastore, 1) := by decide +kernel
theorem dX0_pairNext_123 : decode cX0_pairNext 123 = .ok (.aload_n 0, 1) := by decide +kernel
theorem dX0_pairNext_124 : decode cX0_pairNext 124 = .ok (.getfield 43, 3) := by decide +kernel
theorem dX0_pairNext_127 : decode cX0_pairNext 127 = .ok (.iload 4, 2) := by decide +kernel
theorem dX0_pairNext_129 : decode cX0_pairNext 129 = .ok (.bipush 16, 2) := by decide +kernel
theorem dX0_pairNext_131 : decode cX0_pairNext 131 = .ok (.imul, 1) := by decide +kernel
theorem dX0_pairNext_132 : decode cX0_pairNext 132 = .ok (.iload_n 2, 1) := by decide +kernel
theorem dX0_pairNext_133 : decode cX0_pairNext 133 = .ok (.iadd, 1) := by decide +kernel
theorem dX0_pairNext_134 : decode cX0_pairNext 134 = .ok (.fconst 0, 1) := by decide +kernel
theorem dX0_pairNext_135 : decode cX0_pairNext 135 = .ok (.fastore, 1) := by decide +kernel
theorem dX0_pairNext_136 : decode cX0_pairNext 136 = .ok (.iinc 4 1, 3) := by decide +kernel
theorem dX0_pairNext_139 : decode cX0_pairNext 139 = .ok (.goto (-36), 3) := by decide +kernel
theorem dX0_pairNext_142 : decode cX0_pairNext 142 = .ok (.aload_n 0, 1) := by decide +kernel
theorem dX0_pairNext_143 : decode cX0_pairNext 143 = .ok (.getfield 27, 3) := by decide +kernel
theorem dX0_pairNext_146 : decode cX0_pairNext 146 = .ok (.aload_n 0, 1) := by decide +kernel
theorem dX0_pairNext_147 : decode cX0_pairNext 147 = .ok (.getfield 59, 3) := by decide +kernel
theorem dX0_pairNext_150 : decode cX0_pairNext 150 = .ok (.aload_n 0, 1) := by decide +kernel
theorem dX0_pairNext_151 : decode cX0_pairNext 151 = .ok (.getfield 21, 3) := by decide +kernel
theorem dX0_pairNext_154 : decode cX0_pairNext 154 = .ok (.aload_n 0, 1) := by decide +kernel
theorem dX0_pairNext_155 : decode cX0_pairNext 155 = .ok (.getfield 37, 3) := by decide +kernel
theorem dX0_pairNext_158 : decode cX0_pairNext 158 = .ok (.iload_n 1, 1) := by decide +kernel
theorem dX0_pairNext_159 : decode cX0_pairNext 159 = .ok (.iaload, 1) := by decide +kernel
theorem dX0_pairNext_160 : decode cX0_pairNext 160 = .ok (.iaload, 1) := by decide +kernel
theorem dX0_pairNext_161 : decode cX0_pairNext 161 = .ok (.iastore, 1) := by decide +kernel
theorem dX0_pairNext_162 : decode cX0_pairNext 162 = .ok (.aload_n 0, 1) := by decide +kernel
theorem dX0_pairNext_163 : decode cX0_pairNext 163 = .ok (.getfield 30, 3) := by decide +kernel
theorem dX0_pairNext_166 : decode cX0_pairNext 166 = .ok (.aload_n 0, 1) := by decide +kernel
theorem dX0_pairNext_167 : decode cX0_pairNext 167 = .ok (.getfield 59, 3) := by decide +kernel
theorem dX0_pairNext_170 : decode cX0_pairNext 170 = .ok (.aload_n 0, 1) := by decide +kernel
theorem dX0_pairNext_171 : decode cX0_pairNext 171 = .ok (.getfield 24, 3) := by decide +kernel
theorem dX0_pairNext_174 : decode cX0_pairNext 174 = .ok (.aload_n 0, 1) := by decide +kernel
theorem dX0_pairNext_175 : decode cX0_pairNext 175 = .ok (.getfield 40, 3) := by decide +kernel
theorem dX0_pairNext_178 : decode cX0_pairNext 178 = .ok (.iload_n 2, 1) := by decide +kernel
theorem dX0_pairNext_179 : decode cX0_pairNext 179 = .ok (.iaload, 1) := by decide +kernel
theorem dX0_pairNext_180 : decode cX0_pairNext 180 = .ok (.iaload, 1) := by decide +kernel
theorem dX0_pairNext_181 : decode cX0_pairNext 181 = .ok (.iastore, 1) := by decide +kernel
theorem dX0_pairNext_182 : decode cX0_pairNext 182 = .ok (.aload_n 0, 1) := by decide +kernel
theorem dX0_pairNext_183 : decode cX0_pairNext 183 = .ok (.getfield 33, 3) := by decide +kernel
theorem dX0_pairNext_186 : decode cX0_pairNext 186 = .ok (.aload_n 0, 1) := by decide +kernel
theorem dX0_pairNext_187 : decode cX0_pairNext 187 = .ok (.getfield 59, 3) := by decide +kernel
theorem dX0_pairNext_190 : decode cX0_pairNext 190 = .ok (.fload_n 3, 1) := by decide +kernel
theorem dX0_pairNext_191 : decode cX0_pairNext 191 = .ok (.fastore, 1) := by decide +kernel
theorem dX0_pairNext_192 : decode cX0_pairNext 192 = .ok (.aload_n 0, 1) := by decide +kernel
theorem dX0_pairNext_193 : decode cX0_pairNext 193 = .ok (.dup, 1) := by decide +kernel
theorem dX0_pairNext_194 : decode cX0_pairNext 194 = .ok (.getfield 59, 3) := by decide +kernel
theorem dX0_pairNext_197 : decode cX0_pairNext 197 = .ok (.iconst 1, 1) := by decide +kernel
theorem dX0_pairNext_198 : decode cX0_pairNext 198 = .ok (.iadd, 1) := by decide +kernel
theorem dX0_pairNext_199 : decode cX0_pairNext 199 = .ok (.putfield 59, 3) := by decide +kernel
theorem dX0_pairNext_202 : decode cX0_pairNext 202 = .ok (.iconst 1, 1) := by decide +kernel
theorem dX0_pairNext_203 : decode cX0_pairNext 203 = .ok (.ireturn, 1) := by decide +kernel
def P_X0_pairNext_9 (sh : gS) (Q : Option gV → gS → gM → Prop) (x0 x1 x2 x3 x4 : Int) (M : gM) : Prop := gA (gr 0 0) yX0_pairNext cX0_pairNext 7 (some (.boolean)) Q (0, 0) 9 [(4, x0), (0, x1), (0, x2), (2, x3), (0, x4), (9, 0), (9, 0)] [] sh M
def P_X0_pairNext_21 (sh : gS) (Q : Option gV → gS → gM → Prop) (x0 x1 x2 x3 x4 x5 : Int) (M : gM) : Prop := gA (gr 0 0) yX0_pairNext cX0_pairNext 7 (some (.boolean)) Q (0, 0) 21 [(4, x0), (0, x1), (0, x2), (2, x3), (0, x4), (0, x5), (9, 0)] [] sh M
def P_X0_pairNext_103 (sh : gS) (Q : Option gV → gS → gM → Prop) (x0 x1 x2 x3 x4 : Int) (M : gM) : Prop := gA (gr 0 0) yX0_pairNext cX0_pairNext 7 (some (.boolean)) Q (0, 0) 103 [(4, x0), (0, x1), (0, x2), (2, x3), (0, x4), (9, 0), (9, 0)] [] sh M
theorem w_X0_pairNext_9 {sh : gS} {Q : Option gV → gS → gM → Prop} {x0 x1 x2 x3 x4 : Int} {M : gM} (hOK : gOK sh M) (h : ((gsh sh x0 = some (0, 1) ∧ x0 < 758) ∧
    (if x4 < (M x0 10) then
      (P_X0_pairNext_21 sh Q x0 x1 x2 x3 x4 0 M)
    else
      (if x1 < 0 then
        (Q (some (0, 0)) sh M)
      else
        (if x2 < 0 then
          (Q (some (0, 0)) sh M)
        else
          (if (M x0 6) < 16 then
            (P_X0_pairNext_103 sh Q x0 x1 x2 x3 0 M)
          else
            (Q (some (0, 0)) sh M))))))) : P_X0_pairNext_9 sh Q x0 x1 x2 x3 x4 M := by
  unfold P_X0_pairNext_9
  refine g_iload (q0 := 11) (j := 4) rfl dX0_pairNext_9 rfl ?_
  refine g_aload_n (q0 := 12) (j := 0) rfl dX0_pairNext_11 rfl ?_
  obtain ⟨g1, h⟩ := h
  refine g_getf (q0 := 15) (t := 0) (fi := 10) rfl rfl ff_X0_88 dX0_pairNext_12 rfl g1.1 ?_
  refine g_icmp_ge (q0 := 18) (tgt := 81) rfl dX0_pairNext_15 (by decide) (fun h15 => ?_) (fun h15 => ?_)
  · replace h := wI_neg (Int.not_lt.mpr h15) h
    refine g_iload_n (q0 := 82) (j := 1) rfl dX0_pairNext_81 rfl ?_
    refine g_if_lt (q0 := 85) (tgt := 98) rfl dX0_pairNext_82 (by decide) (fun h82 => ?_) (fun h82 => ?_)
    · replace h := wI_pos h82 h
      refine g_iconst (q0 := 99) rfl dX0_pairNext_98 (k := ?_)
      exact g_zreturn dX0_pairNext_99 rfl (gnz (Or.inl rfl)) ⟨Nat.zero_le _, Nat.zero_le _⟩ h
    · replace h := wI_neg (Int.not_lt.mpr h82) h
      refine g_iload_n (q0 := 86) (j := 2) rfl dX0_pairNext_85 rfl ?_
      refine g_if_lt (q0 := 89) (tgt := 98) rfl dX0_pairNext_86 (by decide) (fun h86 => ?_) (fun h86 => ?_)
      · replace h := wI_pos h86 h
        refine g_iconst (q0 := 99) rfl dX0_pairNext_98 (k := ?_)
        exact g_zreturn dX0_pairNext_99 rfl (gnz (Or.inl rfl)) ⟨Nat.zero_le _, Nat.zero_le _⟩ h
      · replace h := wI_neg (Int.not_lt.mpr h86) h
        refine g_aload_n (q0 := 90) (j := 0) rfl dX0_pairNext_89 rfl ?_
        refine g_getf (q0 := 93) (t := 0) (fi := 6) rfl rfl ff_X0_59 dX0_pairNext_90 rfl g1.1 ?_
        refine g_bipush (q0 := 95) rfl dX0_pairNext_93 (k := ?_)
        refine g_icmp_lt (q0 := 98) (tgt := 100) rfl dX0_pairNext_95 (by decide) (fun h95 => ?_) (fun h95 => ?_)
        · replace h := wI_pos h95 h
          refine g_iconst (q0 := 101) rfl dX0_pairNext_100 (k := ?_)
          refine g_istore (q0 := 103) (j := 4) (lv2 := [_, _, _, _, _, _, _]) rfl dX0_pairNext_101 (by decide) rfl rfl ?_
          exact h
        · replace h := wI_neg (Int.not_lt.mpr h95) h
          refine g_iconst (q0 := 99) rfl dX0_pairNext_98 (k := ?_)
          exact g_zreturn dX0_pairNext_99 rfl (gnz (Or.inl rfl)) ⟨Nat.zero_le _, Nat.zero_le _⟩ h
  · replace h := wI_pos h15 h
    refine g_iconst (q0 := 19) rfl dX0_pairNext_18 (k := ?_)
    refine g_istore (q0 := 21) (j := 5) (lv2 := [_, _, _, _, _, _, _]) rfl dX0_pairNext_19 (by decide) rfl rfl ?_
    exact h
theorem w_X0_pairNext_21 {sh : gS} {Q : Option gV → gS → gM → Prop} {x0 x1 x2 x3 x4 x5 : Int} {M : gM} (hOK : gOK sh M) (h : ((gsh sh x0 = some (0, 1) ∧ x0 < 758) ∧
    (if x5 < (M x0 11) then
      (∃ n3 : Nat, gsh sh (x0 + 11) = some (5, n3) ∧
        ((0 ≤ (gw32 ((gw32 (x4 * (16 : Int))) + x5)) ∧ (gw32 ((gw32 (x4 * (16 : Int))) + x5)) < (n3 : Int)) ∧
          (if (Op.cmpValue (FP.fcmp (gu (M (x0 + 11) (gw32 ((gw32 (x4 * (16 : Int))) + x5)))) (gu (gfl 1058642330))) .l).toInt < 0 then
            (P_X0_pairNext_21 sh Q x0 x1 x2 x3 x4 (gw32 (x5 + 1)) M)
          else
            (if (0 : Int) < (Op.cmpValue (FP.fcmp (gu (M (x0 + 11) (gw32 ((gw32 (x4 * (16 : Int))) + x5)))) (gu x3)) .l).toInt then
              (P_X0_pairNext_21 sh Q x0 x4 x5 (M (x0 + 11) (gw32 ((gw32 (x4 * (16 : Int))) + x5))) x4 (gw32 (x5 + 1)) M)
            else
              (P_X0_pairNext_21 sh Q x0 x1 x2 x3 x4 (gw32 (x5 + 1)) M)))))
    else
      (P_X0_pairNext_9 sh Q x0 x1 x2 x3 (gw32 (x4 + 1)) M)))) : P_X0_pairNext_21 sh Q x0 x1 x2 x3 x4 x5 M := by
  unfold P_X0_pairNext_21
  refine g_iload (q0 := 23) (j := 5) rfl dX0_pairNext_21 rfl ?_
  refine g_aload_n (q0 := 24) (j := 0) rfl dX0_pairNext_23 rfl ?_
  obtain ⟨g2, h⟩ := h
  refine g_getf (q0 := 27) (t := 0) (fi := 11) rfl rfl ff_X0_91 dX0_pairNext_24 rfl g2.1 ?_
  refine g_icmp_ge (q0 := 30) (tgt := 75) rfl dX0_pairNext_27 (by decide) (fun h27 => ?_) (fun h27 => ?_)
  · replace h := wI_neg (Int.not_lt.mpr h27) h
    refine g_iincw (q0 := 78) (lv2 := [_, _, _, _, _, _, _]) rfl dX0_pairNext_75 rfl (by decide) rfl rfl ?_
    refine g_goto (tgt := 9) dX0_pairNext_78 (by decide) ?_
    refine gA_jk (lv1 := [_, _, _, _, _, (9, 0), (9, 0)]) ⟨.inl rfl, .inl rfl, .inl rfl, .inl rfl, .inl rfl, .inr rfl, .inr rfl, trivial⟩ ?_
    exact h
  · replace h := wI_pos h27 h
    refine g_aload_n (q0 := 31) (j := 0) rfl dX0_pairNext_30 rfl ?_
    refine g_getp (q0 := 34) (b := (x0 + 11)) rfl ff_X0_43 dX0_pairNext_31 rfl hOK g2.2 g2.1 rfl rfl ?_
    refine g_iload (q0 := 36) (j := 4) rfl dX0_pairNext_34 rfl ?_
    refine g_bipush (q0 := 38) rfl dX0_pairNext_36 (k := ?_)
    refine g_imulw (q0 := 39) rfl dX0_pairNext_38 ?_
    refine g_iload (q0 := 41) (j := 5) rfl dX0_pairNext_39 rfl ?_
    refine g_iaddw (q0 := 42) rfl dX0_pairNext_41 ?_
    obtain ⟨n3, sn3, h⟩ := h
    obtain ⟨g4, h⟩ := h
    refine g_fald (q0 := 43) rfl dX0_pairNext_42 sn3 g4.1 g4.2 ?_
    refine g_fstore (q0 := 45) (j := 6) (lv2 := [_, _, _, _, _, _, _]) rfl dX0_pairNext_43 (by decide) rfl rfl ?_
    refine g_fload (q0 := 47) (j := 6) rfl dX0_pairNext_45 rfl ?_
    refine g_ldcf (q0 := 49) rfl co_X0_102 dX0_pairNext_47 ?_
    refine g_fcmp (q0 := 50) rfl dX0_pairNext_49 ?_
    refine g_if_lt (q0 := 53) (tgt := 69) rfl dX0_pairNext_50 (by decide) (fun h50 => ?_) (fun h50 => ?_)
    · replace h := wI_pos h50 h
      refine g_iincw (q0 := 72) (lv2 := [_, _, _, _, _, _, _]) rfl dX0_pairNext_69 rfl (by decide) rfl rfl ?_
      refine g_goto (tgt := 21) dX0_pairNext_72 (by decide) ?_
      refine gA_jk (lv1 := [_, _, _, _, _, _, (9, 0)]) ⟨.inl rfl, .inl rfl, .inl rfl, .inl rfl, .inl rfl, .inl rfl, .inr rfl, trivial⟩ ?_
      exact h
    · replace h := wI_neg (Int.not_lt.mpr h50) h
      refine g_fload (q0 := 55) (j := 6) rfl dX0_pairNext_53 rfl ?_
      refine g_fload_n (q0 := 56) (j := 3) rfl dX0_pairNext_55 rfl ?_
      refine g_fcmp (q0 := 57) rfl dX0_pairNext_56 ?_
      refine g_if_le (q0 := 60) (tgt := 69) rfl dX0_pairNext_57 (by decide) (fun h57 => ?_) (fun h57 => ?_)
      · replace h := wI_neg (Int.not_lt.mpr h57) h
        refine g_iincw (q0 := 72) (lv2 := [_, _, _, _, _, _, _]) rfl dX0_pairNext_69 rfl (by decide) rfl rfl ?_
        refine g_goto (tgt := 21) dX0_pairNext_72 (by decide) ?_
        refine gA_jk (lv1 := [_, _, _, _, _, _, (9, 0)]) ⟨.inl rfl, .inl rfl, .inl rfl, .inl rfl, .inl rfl, .inl rfl, .inr rfl, trivial⟩ ?_
        exact h
      · replace h := wI_pos h57 h
        refine g_iload (q0 := 62) (j := 4) rfl dX0_pairNext_60 rfl ?_
        refine g_istore_n (q0 := 63) (j := 1) (lv2 := [_, _, _, _, _, _, _]) rfl dX0_pairNext_62 (by decide) rfl rfl ?_
        refine g_iload (q0 := 65) (j := 5) rfl dX0_pairNext_63 rfl ?_
        refine g_istore_n (q0 := 66) (j := 2) (lv2 := [_, _, _, _, _, _, _]) rfl dX0_pairNext_65 (by decide) rfl rfl ?_
        refine g_fload (q0 := 68) (j := 6) rfl dX0_pairNext_66 rfl ?_
        refine g_fstore_n (q0 := 69) (j := 3) (lv2 := [_, _, _, _, _, _, _]) rfl dX0_pairNext_68 (by decide) rfl rfl ?_
        refine g_iincw (q0 := 72) (lv2 := [_, _, _, _, _, _, _]) rfl dX0_pairNext_69 rfl (by decide) rfl rfl ?_
        refine g_goto (tgt := 21) dX0_pairNext_72 (by decide) ?_
        refine gA_jk (lv1 := [_, _, _, _, _, _, (9, 0)]) ⟨.inl rfl, .inl rfl, .inl rfl, .inl rfl, .inl rfl, .inl rfl, .inr rfl, trivial⟩ ?_
        exact h
theorem w_X0_pairNext_103 {sh : gS} {Q : Option gV → gS → gM → Prop} {x0 x1 x2 x3 x4 : Int} {M : gM} (hOK : gOK sh M) (h : (if x4 < 16 then
    ((gsh sh x0 = some (0, 1) ∧ x0 < 758) ∧
      (∃ n25 : Nat, gsh sh (x0 + 11) = some (5, n25) ∧
        ((0 ≤ (gw32 ((gw32 (x1 * (16 : Int))) + x4)) ∧ (gw32 ((gw32 (x1 * (16 : Int))) + x4)) < (n25 : Int)) ∧
          ((0 ≤ (gw32 ((gw32 (x4 * (16 : Int))) + x2)) ∧ (gw32 ((gw32 (x4 * (16 : Int))) + x2)) < (n25 : Int)) ∧
            (P_X0_pairNext_103 sh Q x0 x1 x2 x3 (gw32 (x4 + 1)) (gU (gU M (x0 + 11) (gw32 ((gw32 (x1 * (16 : Int))) + x4)) (gfl FP.fconst0)) (x0 + 11) (gw32 ((gw32 (x4 * (16 : Int))) + x2)) (gfl FP.fconst0)))))))
  else
    ((gsh sh x0 = some (0, 1) ∧ x0 < 758) ∧
      (∃ n6 : Nat, gsh sh (x0 + 9) = some (1, n6) ∧
        ((0 ≤ x1 ∧ x1 < (n6 : Int)) ∧
          (∃ n8 : Nat, gsh sh (x0 + 4) = some (1, n8) ∧
            ((0 ≤ (M (x0 + 9) x1) ∧ (M (x0 + 9) x1) < (n8 : Int)) ∧
              (∃ n10 : Nat, gsh sh (x0 + 6) = some (1, n10) ∧
                ((0 ≤ (M x0 6) ∧ (M x0 6) < (n10 : Int)) ∧
                  (∃ n13 : Nat, gsh sh (x0 + 10) = some (1, n13) ∧
                    ((0 ≤ x2 ∧ x2 < (n13 : Int)) ∧
                      (∃ n15 : Nat, gsh sh (x0 + 5) = some (1, n15) ∧
                        ((0 ≤ ((gU M (x0 + 6) (M x0 6) (M (x0 + 4) (M (x0 + 9) x1))) (x0 + 10) x2) ∧ ((gU M (x0 + 6) (M x0 6) (M (x0 + 4) (M (x0 + 9) x1))) (x0 + 10) x2) < (n15 : Int)) ∧
                          (∃ n17 : Nat, gsh sh (x0 + 7) = some (1, n17) ∧
                            ((0 ≤ ((gU M (x0 + 6) (M x0 6) (M (x0 + 4) (M (x0 + 9) x1))) x0 6) ∧ ((gU M (x0 + 6) (M x0 6) (M (x0 + 4) (M (x0 + 9) x1))) x0 6) < (n17 : Int)) ∧
                              (∃ n20 : Nat, gsh sh (x0 + 8) = some (5, n20) ∧
                                ((0 ≤ ((gU (gU M (x0 + 6) (M x0 6) (M (x0 + 4) (M (x0 + 9) x1))) (x0 + 7) ((gU M (x0 + 6) (M x0 6) (M (x0 + 4) (M (x0 + 9) x1))) x0 6) ((gU M (x0 + 6) (M x0 6) (M (x0 + 4) (M (x0 + 9) x1))) (x0 + 5) ((gU M (x0 + 6) (M x0 6) (M (x0 + 4) (M (x0 + 9) x1))) (x0 + 10) x2))) x0 6) ∧ ((gU (gU M (x0 + 6) (M x0 6) (M (x0 + 4) (M (x0 + 9) x1))) (x0 + 7) ((gU M (x0 + 6) (M x0 6) (M (x0 + 4) (M (x0 + 9) x1))) x0 6) ((gU M (x0 + 6) (M x0 6) (M (x0 + 4) (M (x0 + 9) x1))) (x0 + 5) ((gU M (x0 + 6) (M x0 6) (M (x0 + 4) (M (x0 + 9) x1))) (x0 + 10) x2))) x0 6) < (n20 : Int)) ∧
                                  (Q (some (0, 1)) sh (gU (gU (gU (gU M (x0 + 6) (M x0 6) (M (x0 + 4) (M (x0 + 9) x1))) (x0 + 7) ((gU M (x0 + 6) (M x0 6) (M (x0 + 4) (M (x0 + 9) x1))) x0 6) ((gU M (x0 + 6) (M x0 6) (M (x0 + 4) (M (x0 + 9) x1))) (x0 + 5) ((gU M (x0 + 6) (M x0 6) (M (x0 + 4) (M (x0 + 9) x1))) (x0 + 10) x2))) (x0 + 8) ((gU (gU M (x0 + 6) (M x0 6) (M (x0 + 4) (M (x0 + 9) x1))) (x0 + 7) ((gU M (x0 + 6) (M x0 6) (M (x0 + 4) (M (x0 + 9) x1))) x0 6) ((gU M (x0 + 6) (M x0 6) (M (x0 + 4) (M (x0 + 9) x1))) (x0 + 5) ((gU M (x0 + 6) (M x0 6) (M (x0 + 4) (M (x0 + 9) x1))) (x0 + 10) x2))) x0 6) x3) x0 6 (gw32 (((gU (gU (gU M (x0 + 6) (M x0 6) (M (x0 + 4) (M (x0 + 9) x1))) (x0 + 7) ((gU M (x0 + 6) (M x0 6) (M (x0 + 4) (M (x0 + 9) x1))) x0 6) ((gU M (x0 + 6) (M x0 6) (M (x0 + 4) (M (x0 + 9) x1))) (x0 + 5) ((gU M (x0 + 6) (M x0 6) (M (x0 + 4) (M (x0 + 9) x1))) (x0 + 10) x2))) (x0 + 8) ((gU (gU M (x0 + 6) (M x0 6) (M (x0 + 4) (M (x0 + 9) x1))) (x0 + 7) ((gU M (x0 + 6) (M x0 6) (M (x0 + 4) (M (x0 + 9) x1))) x0 6) ((gU M (x0 + 6) (M x0 6) (M (x0 + 4) (M (x0 + 9) x1))) (x0 + 5) ((gU M (x0 + 6) (M x0 6) (M (x0 + 4) (M (x0 + 9) x1))) (x0 + 10) x2))) x0 6) x3) x0 6) + (1 : Int)))))))))))))))))))))) : P_X0_pairNext_103 sh Q x0 x1 x2 x3 x4 M := by
  unfold P_X0_pairNext_103
  refine g_iload (q0 := 105) (j := 4) rfl dX0_pairNext_103 rfl ?_
  refine g_bipush (q0 := 107) rfl dX0_pairNext_105 (k := ?_)
  refine g_icmp_ge (q0 := 110) (tgt := 142) rfl dX0_pairNext_107 (by decide) (fun h107 => ?_) (fun h107 => ?_)
  · replace h := wI_neg (Int.not_lt.mpr h107) h
    refine g_aload_n (q0 := 143) (j := 0) rfl dX0_pairNext_142 rfl ?_
    obtain ⟨g5, h⟩ := h
    refine g_getp (q0 := 146) (b := (x0 + 6)) rfl ff_X0_27 dX0_pairNext_143 rfl hOK g5.2 g5.1 rfl rfl ?_
    refine g_aload_n (q0 := 147) (j := 0) rfl dX0_pairNext_146 rfl ?_
    refine g_getf (q0 := 150) (t := 0) (fi := 6) rfl rfl ff_X0_59 dX0_pairNext_147 rfl g5.1 ?_
    refine g_aload_n (q0 := 151) (j := 0) rfl dX0_pairNext_150 rfl ?_
    refine g_getp (q0 := 154) (b := (x0 + 4)) rfl ff_X0_21 dX0_pairNext_151 rfl hOK g5.2 g5.1 rfl rfl ?_
    refine g_aload_n (q0 := 155) (j := 0) rfl dX0_pairNext_154 rfl ?_
    refine g_getp (q0 := 158) (b := (x0 + 9)) rfl ff_X0_37 dX0_pairNext_155 rfl hOK g5.2 g5.1 rfl rfl ?_
    refine g_iload_n (q0 := 159) (j := 1) rfl dX0_pairNext_158 rfl ?_
    obtain ⟨n6, sn6, h⟩ := h
    obtain ⟨g7, h⟩ := h
    refine g_iald (q0 := 160) rfl dX0_pairNext_159 sn6 g7.1 g7.2 ?_
    obtain ⟨n8, sn8, h⟩ := h
    obtain ⟨g9, h⟩ := h
    refine g_iald (q0 := 161) rfl dX0_pairNext_160 sn8 g9.1 g9.2 ?_
    obtain ⟨n10, sn10, h⟩ := h
    obtain ⟨g11, h⟩ := h
    refine g_iast (q0 := 162) rfl dX0_pairNext_161 sn10 g11.1 g11.2 ?_
    have hOK12 : gOK sh (gU M (x0 + 6) (M x0 6) (M (x0 + 4) (M (x0 + 9) x1))) := gOK_i hOK sn10
    refine g_aload_n (q0 := 163) (j := 0) rfl dX0_pairNext_162 rfl ?_
    refine g_getp (q0 := 166) (b := (x0 + 7)) rfl ff_X0_30 dX0_pairNext_163 rfl hOK12 g5.2 g5.1 rfl rfl ?_
    refine g_aload_n (q0 := 167) (j := 0) rfl dX0_pairNext_166 rfl ?_
    refine g_getf (q0 := 170) (t := 0) (fi := 6) rfl rfl ff_X0_59 dX0_pairNext_167 rfl g5.1 ?_
    refine g_aload_n (q0 := 171) (j := 0) rfl dX0_pairNext_170 rfl ?_
    refine g_getp (q0 := 174) (b := (x0 + 5)) rfl ff_X0_24 dX0_pairNext_171 rfl hOK12 g5.2 g5.1 rfl rfl ?_
    refine g_aload_n (q0 := 175) (j := 0) rfl dX0_pairNext_174 rfl ?_
    refine g_getp (q0 := 178) (b := (x0 + 10)) rfl ff_X0_40 dX0_pairNext_175 rfl hOK12 g5.2 g5.1 rfl rfl ?_
    refine g_iload_n (q0 := 179) (j := 2) rfl dX0_pairNext_178 rfl ?_
    obtain ⟨n13, sn13, h⟩ := h
    obtain ⟨g14, h⟩ := h
    refine g_iald (q0 := 180) rfl dX0_pairNext_179 sn13 g14.1 g14.2 ?_
    obtain ⟨n15, sn15, h⟩ := h
    obtain ⟨g16, h⟩ := h
    refine g_iald (q0 := 181) rfl dX0_pairNext_180 sn15 g16.1 g16.2 ?_
    obtain ⟨n17, sn17, h⟩ := h
    obtain ⟨g18, h⟩ := h
    refine g_iast (q0 := 182) rfl dX0_pairNext_181 sn17 g18.1 g18.2 ?_
    have hOK19 : gOK sh (gU (gU M (x0 + 6) (M x0 6) (M (x0 + 4) (M (x0 + 9) x1))) (x0 + 7) ((gU M (x0 + 6) (M x0 6) (M (x0 + 4) (M (x0 + 9) x1))) x0 6) ((gU M (x0 + 6) (M x0 6) (M (x0 + 4) (M (x0 + 9) x1))) (x0 + 5) ((gU M (x0 + 6) (M x0 6) (M (x0 + 4) (M (x0 + 9) x1))) (x0 + 10) x2))) := gOK_i hOK12 sn17
    refine g_aload_n (q0 := 183) (j := 0) rfl dX0_pairNext_182 rfl ?_
    refine g_getp (q0 := 186) (b := (x0 + 8)) rfl ff_X0_33 dX0_pairNext_183 rfl hOK19 g5.2 g5.1 rfl rfl ?_
    refine g_aload_n (q0 := 187) (j := 0) rfl dX0_pairNext_186 rfl ?_
    refine g_getf (q0 := 190) (t := 0) (fi := 6) rfl rfl ff_X0_59 dX0_pairNext_187 rfl g5.1 ?_
    refine g_fload_n (q0 := 191) (j := 3) rfl dX0_pairNext_190 rfl ?_
    obtain ⟨n20, sn20, h⟩ := h
    obtain ⟨g21, h⟩ := h
    refine g_fast (q0 := 192) rfl dX0_pairNext_191 sn20 g21.1 g21.2 ?_
    have hOK22 : gOK sh (gU (gU (gU M (x0 + 6) (M x0 6) (M (x0 + 4) (M (x0 + 9) x1))) (x0 + 7) ((gU M (x0 + 6) (M x0 6) (M (x0 + 4) (M (x0 + 9) x1))) x0 6) ((gU M (x0 + 6) (M x0 6) (M (x0 + 4) (M (x0 + 9) x1))) (x0 + 5) ((gU M (x0 + 6) (M x0 6) (M (x0 + 4) (M (x0 + 9) x1))) (x0 + 10) x2))) (x0 + 8) ((gU (gU M (x0 + 6) (M x0 6) (M (x0 + 4) (M (x0 + 9) x1))) (x0 + 7) ((gU M (x0 + 6) (M x0 6) (M (x0 + 4) (M (x0 + 9) x1))) x0 6) ((gU M (x0 + 6) (M x0 6) (M (x0 + 4) (M (x0 + 9) x1))) (x0 + 5) ((gU M (x0 + 6) (M x0 6) (M (x0 + 4) (M (x0 + 9) x1))) (x0 + 10) x2))) x0 6) x3) := gOK_f hOK19 sn20
    refine g_aload_n (q0 := 193) (j := 0) rfl dX0_pairNext_192 rfl ?_
    refine g_dup (q0 := 194) rfl dX0_pairNext_193 (k := ?_)
    refine g_getf (q0 := 197) (t := 0) (fi := 6) rfl rfl ff_X0_59 dX0_pairNext_194 rfl g5.1 ?_
    refine g_iconst (q0 := 198) rfl dX0_pairNext_197 (k := ?_)
    refine g_iaddw (q0 := 199) rfl dX0_pairNext_198 ?_
    refine g_put (q0 := 202) (t := 0) (fi := 6) rfl rfl ff_X0_59 dX0_pairNext_199 rfl g5.1 rfl (fun _ => ⟨rfl, rfl⟩) ?_
    have hOK23 : gOK sh (gU (gU (gU (gU M (x0 + 6) (M x0 6) (M (x0 + 4) (M (x0 + 9) x1))) (x0 + 7) ((gU M (x0 + 6) (M x0 6) (M (x0 + 4) (M (x0 + 9) x1))) x0 6) ((gU M (x0 + 6) (M x0 6) (M (x0 + 4) (M (x0 + 9) x1))) (x0 + 5) ((gU M (x0 + 6) (M x0 6) (M (x0 + 4) (M (x0 + 9) x1))) (x0 + 10) x2))) (x0 + 8) ((gU (gU M (x0 + 6) (M x0 6) (M (x0 + 4) (M (x0 + 9) x1))) (x0 + 7) ((gU M (x0 + 6) (M x0 6) (M (x0 + 4) (M (x0 + 9) x1))) x0 6) ((gU M (x0 + 6) (M x0 6) (M (x0 + 4) (M (x0 + 9) x1))) (x0 + 5) ((gU M (x0 + 6) (M x0 6) (M (x0 + 4) (M (x0 + 9) x1))) (x0 + 10) x2))) x0 6) x3) x0 6 (gw32 (((gU (gU (gU M (x0 + 6) (M x0 6) (M (x0 + 4) (M (x0 + 9) x1))) (x0 + 7) ((gU M (x0 + 6) (M x0 6) (M (x0 + 4) (M (x0 + 9) x1))) x0 6) ((gU M (x0 + 6) (M x0 6) (M (x0 + 4) (M (x0 + 9) x1))) (x0 + 5) ((gU M (x0 + 6) (M x0 6) (M (x0 + 4) (M (x0 + 9) x1))) (x0 + 10) x2))) (x0 + 8) ((gU (gU M (x0 + 6) (M x0 6) (M (x0 + 4) (M (x0 + 9) x1))) (x0 + 7) ((gU M (x0 + 6) (M x0 6) (M (x0 + 4) (M (x0 + 9) x1))) x0 6) ((gU M (x0 + 6) (M x0 6) (M (x0 + 4) (M (x0 + 9) x1))) (x0 + 5) ((gU M (x0 + 6) (M x0 6) (M (x0 + 4) (M (x0 + 9) x1))) (x0 + 10) x2))) x0 6) x3) x0 6) + (1 : Int)))) := gOK_o hOK22 g5.1 (f := 6) rfl rfl
    refine g_iconst (q0 := 203) rfl dX0_pairNext_202 (k := ?_)
    exact g_zreturn dX0_pairNext_203 rfl (gnz (Or.inr rfl)) ⟨Nat.zero_le _, Nat.zero_le _⟩ h
  · replace h := wI_pos h107 h
    refine g_aload_n (q0 := 111) (j := 0) rfl dX0_pairNext_110 rfl ?_
    obtain ⟨g24, h⟩ := h
    refine g_getp (q0 := 114) (b := (x0 + 11)) rfl ff_X0_43 dX0_pairNext_111 rfl hOK g24.2 g24.1 rfl rfl ?_
    refine g_iload_n (q0 := 115) (j := 1) rfl dX0_pairNext_114 rfl ?_
    refine g_bipush (q0 := 117) rfl dX0_pairNext_115 (k := ?_)
    refine g_imulw (q0 := 118) rfl dX0_pairNext_117 ?_
    refine g_iload (q0 := 120) (j := 4) rfl dX0_pairNext_118 rfl ?_
    refine g_iaddw (q0 := 121) rfl dX0_pairNext_120 ?_
    refine g_fconst0 (q0 := 122) rfl dX0_pairNext_121 ?_
    obtain ⟨n25, sn25, h⟩ := h
    obtain ⟨g26, h⟩ := h
    refine g_fast (q0 := 123) rfl dX0_pairNext_122 sn25 g26.1 g26.2 ?_
    have hOK27 : gOK sh (gU M (x0 + 11) (gw32 ((gw32 (x1 * (16 : Int))) + x4)) (gfl FP.fconst0)) := gOK_f hOK sn25
    refine g_aload_n (q0 := 124) (j := 0) rfl dX0_pairNext_123 rfl ?_
    refine g_getp (q0 := 127) (b := (x0 + 11)) rfl ff_X0_43 dX0_pairNext_124 rfl hOK27 g24.2 g24.1 rfl rfl ?_
    refine g_iload (q0 := 129) (j := 4) rfl dX0_pairNext_127 rfl ?_
    refine g_bipush (q0 := 131) rfl dX0_pairNext_129 (k := ?_)
    refine g_imulw (q0 := 132) rfl dX0_pairNext_131 ?_
    refine g_iload_n (q0 := 133) (j := 2) rfl dX0_pairNext_132 rfl ?_
    refine g_iaddw (q0 := 134) rfl dX0_pairNext_133 ?_
    refine g_fconst0 (q0 := 135) rfl dX0_pairNext_134 ?_
    obtain ⟨g28, h⟩ := h
    refine g_fast (q0 := 136) rfl dX0_pairNext_135 sn25 g28.1 g28.2 ?_
    have hOK29 : gOK sh (gU (gU M (x0 + 11) (gw32 ((gw32 (x1 * (16 : Int))) + x4)) (gfl FP.fconst0)) (x0 + 11) (gw32 ((gw32 (x4 * (16 : Int))) + x2)) (gfl FP.fconst0)) := gOK_f hOK27 sn25
    refine g_iincw (q0 := 139) (lv2 := [_, _, _, _, _, _, _]) rfl dX0_pairNext_136 rfl (by decide) rfl rfl ?_
    refine g_goto (tgt := 103) dX0_pairNext_139 (by decide) ?_
    exact h
theorem w_X0_pairNext {sh : gS} {Q : Option gV → gS → gM → Prop} {a0 : Int} {M : gM} (hOK : gOK sh M) (h : (P_X0_pairNext_9 sh Q a0 (-1) (-1) (gfl FP.fconst0) 0 M)) : gC (gr 0 0) yX0_pairNext cX0_pairNext 7 (some (.boolean)) [(4, a0)] sh M Q := by
  refine gC_ofA (lv := [_, _, _, _, _, _, _]) (by decide +kernel) (Nat.le_of_ble_eq_true rfl) rfl (fun hMw hav => ?_)
  refine g_iconst (q0 := 1) rfl dX0_pairNext_0 (k := ?_)
  refine g_istore_n (q0 := 2) (j := 1) (lv2 := [_, _, _, _, _, _, _]) rfl dX0_pairNext_1 (by decide) rfl rfl ?_
  refine g_iconst (q0 := 3) rfl dX0_pairNext_2 (k := ?_)
  refine g_istore_n (q0 := 4) (j := 2) (lv2 := [_, _, _, _, _, _, _]) rfl dX0_pairNext_3 (by decide) rfl rfl ?_
  refine g_fconst0 (q0 := 5) rfl dX0_pairNext_4 ?_
  refine g_fstore_n (q0 := 6) (j := 3) (lv2 := [_, _, _, _, _, _, _]) rfl dX0_pairNext_5 (by decide) rfl rfl ?_
  refine g_iconst (q0 := 7) rfl dX0_pairNext_6 (k := ?_)
  refine g_istore (q0 := 9) (j := 4) (lv2 := [_, _, _, _, _, _, _]) rfl dX0_pairNext_7 (by decide) rfl rfl ?_
  exact h
-- ==== X0_pairedWith
theorem dX0_pairedWith_0 : decode cX0_pairedWith 0 = .ok (.iconst 0, 1) := by decide +kernel
theorem dX0_pairedWith_1 : decode cX0_pairedWith 1 = .ok (.istore_n 2, 1) := by decide +kernel
theorem dX0_pairedWith_2 : decode cX0_pairedWith 2 = .ok (.iload_n 2, 1) := by decide +kernel
theorem dX0_pairedWith_3 : decode cX0_pairedWith 3 = .ok (.aload_n 0, 1) := by decide +kernel
theorem dX0_pairedWith_4 : decode cX0_pairedWith 4 = .ok (.getfield 59, 3) := by decide +kernel
theorem dX0_pairedWith_7 : decode cX0_pairedWith 7 = .ok (.if_icmp .ge 26, 3) := by decide +kernel
theorem dX0_pairedWith_10 : decode cX0_pairedWith 10 = .ok (.aload_n 0, 1) := by decide +kernel
theorem dX0_pairedWith_11 : decode cX0_pairedWith 11 = .ok (.getfield 30, 3) := by decide +kernel
theorem dX0_pairedWith_14 : decode cX0_pairedWith 14 = .ok (.iload_n 2, 1) := by decide +kernel
theorem dX0_pairedWith_15 : decode cX0_pairedWith 15 = .ok (.iaload, 1) := by decide +kernel
theorem dX0_pairedWith_16 : decode cX0_pairedWith 16 = .ok (.iload_n 1, 1) := by decide +kernel
theorem dX0_pairedWith_17 : decode cX0_pairedWith 17 = .ok (.if_icmp .ne 10, 3) := by decide +kernel
theorem dX0_pairedWith_20 : decode cX0_pairedWith 20 = .ok (.aload_n 0, 1) := by decide +kernel
theorem dX0_pairedWith_21 : decode cX0_pairedWith 21 = .ok (.getfield 27, 3) := by decide +kernel
theorem dX0_pairedWith_24 : decode cX0_pairedWith 24 = .ok (.iload_n 2, 1) := by decide +kernel
theorem dX0_pairedWith_25 : decode cX0_pairedWith 25 = .ok (.iaload, 1) := by decide +kernel
theorem dX0_pairedWith_26 : decode cX0_pairedWith 26 = .ok (.ireturn, 1) := by decide +kernel
theorem dX0_pairedWith_27 : decode cX0_pairedWith 27 = .ok (.iinc 2 1, 3) := by decide +kernel
theorem dX0_pairedWith_30 : decode cX0_pairedWith 30 = .ok (.goto (-28), 3) := by decide +kernel
theorem dX0_pairedWith_33 : decode cX0_pairedWith 33 = .ok (.iconst (-1), 1) := by decide +kernel
theorem dX0_pairedWith_34 : decode cX0_pairedWith 34 = .ok (.ireturn, 1) := by decide +kernel
def P_X0_pairedWith_2 (sh : gS) (Q : Option gV → gS → gM → Prop) (x0 x1 x2 : Int) (M : gM) : Prop := gA (gr 0 0) yX0_pairedWith cX0_pairedWith 3 (some (.int)) Q (0, 0) 2 [(4, x0), (0, x1), (0, x2)] [] sh M
theorem w_X0_pairedWith_2 {sh : gS} {Q : Option gV → gS → gM → Prop} {x0 x1 x2 : Int} {M : gM} (hOK : gOK sh M) (h : ((gsh sh x0 = some (0, 1) ∧ x0 < 758) ∧
    (if x2 < (M x0 6) then
      (∃ n2 : Nat, gsh sh (x0 + 7) = some (1, n2) ∧
        ((0 ≤ x2 ∧ x2 < (n2 : Int)) ∧
          (if (M (x0 + 7) x2) = x1 then
            (∃ n4 : Nat, gsh sh (x0 + 6) = some (1, n4) ∧
              ((0 ≤ x2 ∧ x2 < (n4 : Int)) ∧
                (Q (some (0, (M (x0 + 6) x2))) sh M)))
          else
            (P_X0_pairedWith_2 sh Q x0 x1 (gw32 (x2 + 1)) M))))
    else
      (Q (some (0, -1)) sh M)))) : P_X0_pairedWith_2 sh Q x0 x1 x2 M := by
  unfold P_X0_pairedWith_2
  refine g_iload_n (q0 := 3) (j := 2) rfl dX0_pairedWith_2 rfl ?_
  refine g_aload_n (q0 := 4) (j := 0) rfl dX0_pairedWith_3 rfl ?_
  obtain ⟨g1, h⟩ := h
  refine g_getf (q0 := 7) (t := 0) (fi := 6) rfl rfl ff_X0_59 dX0_pairedWith_4 rfl g1.1 ?_
  refine g_icmp_ge (q0 := 10) (tgt := 33) rfl dX0_pairedWith_7 (by decide) (fun h7 => ?_) (fun h7 => ?_)
  · replace h := wI_neg (Int.not_lt.mpr h7) h
    refine g_iconst (q0 := 34) rfl dX0_pairedWith_33 (k := ?_)
    exact g_ireturn dX0_pairedWith_34 rfl ⟨Nat.zero_le _, Nat.zero_le _⟩ h
  · replace h := wI_pos h7 h
    refine g_aload_n (q0 := 11) (j := 0) rfl dX0_pairedWith_10 rfl ?_
    refine g_getp (q0 := 14) (b := (x0 + 7)) rfl ff_X0_30 dX0_pairedWith_11 rfl hOK g1.2 g1.1 rfl rfl ?_
    refine g_iload_n (q0 := 15) (j := 2) rfl dX0_pairedWith_14 rfl ?_
    obtain ⟨n2, sn2, h⟩ := h
    obtain ⟨g3, h⟩ := h
    refine g_iald (q0 := 16) rfl dX0_pairedWith_15 sn2 g3.1 g3.2 ?_
    refine g_iload_n (q0 := 17) (j := 1) rfl dX0_pairedWith_16 rfl ?_
    refine g_icmp_ne (q0 := 20) (tgt := 27) rfl dX0_pairedWith_17 (by decide) (fun h17 => ?_) (fun h17 => ?_)
    · replace h := wI_neg h17 h
      refine g_iincw (q0 := 30) (lv2 := [_, _, _]) rfl dX0_pairedWith_27 rfl (by decide) rfl rfl ?_
      refine g_goto (tgt := 2) dX0_pairedWith_30 (by decide) ?_
      exact h
    · replace h := wI_pos h17 h
      refine g_aload_n (q0 := 21) (j := 0) rfl dX0_pairedWith_20 rfl ?_
      refine g_getp (q0 := 24) (b := (x0 + 6)) rfl ff_X0_27 dX0_pairedWith_21 rfl hOK g1.2 g1.1 rfl rfl ?_
      refine g_iload_n (q0 := 25) (j := 2) rfl dX0_pairedWith_24 rfl ?_
      obtain ⟨n4, sn4, h⟩ := h
      obtain ⟨g5, h⟩ := h
      refine g_iald (q0 := 26) rfl dX0_pairedWith_25 sn4 g5.1 g5.2 ?_
      exact g_ireturn dX0_pairedWith_26 rfl ⟨Nat.zero_le _, Nat.zero_le _⟩ h
theorem w_X0_pairedWith {sh : gS} {Q : Option gV → gS → gM → Prop} {a0 a1 : Int} {M : gM} (hOK : gOK sh M) (h : (P_X0_pairedWith_2 sh Q a0 a1 0 M)) : gC (gr 0 0) yX0_pairedWith cX0_pairedWith 3 (some (.int)) [(4, a0), (0, a1)] sh M Q := by
  refine gC_ofA (lv := [_, _, _]) (by decide +kernel) (Nat.le_of_ble_eq_true rfl) rfl (fun hMw hav => ?_)
  refine g_iconst (q0 := 1) rfl dX0_pairedWith_0 (k := ?_)
  refine g_istore_n (q0 := 2) (j := 2) (lv2 := [_, _, _]) rfl dX0_pairedWith_1 (by decide) rfl rfl ?_
  exact h
-- ==== X0_alike
theorem dX0_alike_0 : decode cX0_alike 0 = .ok (.iload_n 1, 1) := by decide +kernel
theorem dX0_alike_1 : decode cX0_alike 1 = .ok (.iload_n 2, 1) := by decide +kernel
theorem dX0_alike_2 : decode cX0_alike 2 = .ok (.if_icmp .ne 5, 3) := by decide +kernel
theorem dX0_alike_5 : decode cX0_alike 5 = .ok (.fconst 1, 1) := by decide +kernel
theorem dX0_alike_6 : decode cX0_alike 6 = .ok (.freturn, 1) := by decide +kernel
theorem dX0_alike_7 : decode cX0_alike 7 = .ok (.iload_n 1, 1) := by decide +kernel
theorem dX0_alike_8 : decode cX0_alike 8 = .ok (.aload_n 0, 1) := by decide +kernel
theorem dX0_alike_9 : decode cX0_alike 9 = .ok (.getfield 46, 3) := by decide +kernel
theorem dX0_alike_12 : decode cX0_alike 12 = .ok (.invokestatic 103, 3) := by decide +kernel
theorem dX0_alike_15 : decode cX0_alike 15 = .ok (.istore_n 3, 1) := by decide +kernel
theorem dX0_alike_16 : decode cX0_alike 16 = .ok (.iload_n 2, 1) := by decide +kernel
theorem dX0_alike_17 : decode cX0_alike 17 = .ok (.aload_n 0, 1) := by decide +kernel
theorem dX0_alike_18 : decode cX0_alike 18 = .ok (.getfield 49, 3) := by decide +kernel
theorem dX0_alike_21 : decode cX0_alike 21 = .ok (.invokestatic 103, 3) := by decide +kernel
theorem dX0_alike_24 : decode cX0_alike 24 = .ok (.istore 4, 2) := by decide +kernel
theorem dX0_alike_26 : decode cX0_alike 26 = .ok (.iload_n 3, 1) := by decide +kernel
theorem dX0_alike_27 : decode cX0_alike 27 = .ok (.iload 4, 2) := by decide +kernel
theorem dX0_alike_29 : decode cX0_alike 29 = .ok (.iadd, 1) := by decide +kernel
theorem dX0_alike_30 : decode cX0_alike 30 = .ok (.iconst 1, 1) := by decide +kernel
theorem dX0_alike_31 : decode cX0_alike 31 = .ok (.if_icmp .ge 5, 3) := by decide +kernel
theorem dX0_alike_34 : decode cX0_alike 34 = .ok (.fconst 0, 1) := by decide +kernel
theorem dX0_alike_35 : decode cX0_alike 35 = .ok (.freturn, 1) := by decide +kernel
theorem dX0_alike_36 : decode cX0_alike 36 = .ok (.iconst 2, 1) := by decide +kernel
theorem dX0_alike_37 : decode cX0_alike 37 = .ok (.aload_n 0, 1) := by decide +kernel
theorem dX0_alike_38 : decode cX0_alike 38 = .ok (.iload_n 3, 1) := by decide +kernel
theorem dX0_alike_39 : decode cX0_alike 39 = .ok (.iload 4, 2) := by decide +kernel
theorem dX0_alike_41 : decode cX0_alike 41 = .ok (.invokevirtual 107, 3) := by decide +kernel
theorem dX0_alike_44 : decode cX0_alike 44 = .ok (.imul, 1) := by decide +kernel
theorem dX0_alike_45 : decode cX0_alike 45 = .ok (.i2f, 1) := by decide +kernel
theorem dX0_alike_46 : decode cX0_alike 46 = .ok (.iload_n 3, 1) := by decide +kernel
theorem dX0_alike_47 : decode cX0_alike 47 = .ok (.iload 4, 2) := by decide +kernel
theorem dX0_alike_49 : decode cX0_alike 49 = .ok (.iadd, 1) := by decide +kernel
theorem dX0_alike_50 : decode cX0_alike 50 = .ok (.i2f, 1) := by decide +kernel
theorem dX0_alike_51 : decode cX0_alike 51 = .ok (.fdiv, 1) := by decide +kernel
theorem dX0_alike_52 : decode cX0_alike 52 = .ok (.freturn, 1) := by decide +kernel
theorem w_X0_alike {sh : gS} {Q : Option gV → gS → gM → Prop} {a0 a1 a2 : Int} {M : gM} (hOK : gOK sh M) (h : (if a1 = a2 then
    (Q (some (2, (gfl FP.fconst1))) sh M)
  else
    ((gsh sh a0 = some (0, 1) ∧ a0 < 758) ∧
      (∃ P12 : Option gV → gM → Prop, gC (gr 1 22) yX0_spread cX0_spread 5 (some (.int)) [(0, a1), (4, (a0 + 12))] sh M (gPm sh P12) ∧ ∀ (r12 : Option gV) (M12 : gM), P12 r12 M12 → ∃ v12 : Int, r12 = some (0, v12) ∧ gOK sh M12 ∧
        (∃ P21 : Option gV → gM → Prop, gC (gr 1 22) yX0_spread cX0_spread 5 (some (.int)) [(0, a2), (4, (a0 + 13))] sh M12 (gPm sh P21) ∧ ∀ (r21 : Option gV) (M21 : gM), P21 r21 M21 → ∃ v21 : Int, r21 = some (0, v21) ∧ gOK sh M21 ∧
          (if (gw32 (v12 + v21)) < 1 then
            (Q (some (2, (gfl FP.fconst0))) sh M21)
          else
            (∃ P41 : Option gV → gM → Prop, gC (gr 1 23) yX0_longestInBoth cX0_longestInBoth 7 (some (.int)) [(4, a0), (0, v12), (0, v21)] sh M21 (gPm sh P41) ∧ ∀ (r41 : Option gV) (M41 : gM), P41 r41 M41 → ∃ v41 : Int, r41 = some (0, v41) ∧ gOK sh M41 ∧
              ((vf_n32 (FP.fdiv (gu (gfl (FP.i2f (Int32.ofInt (gw32 ((2 : Int) * v41)))))) (gu (gfl (FP.i2f (Int32.ofInt (gw32 (v12 + v21)))))))) ∧
                (Q (some (2, (gfl (FP.fdiv (gu (gfl (FP.i2f (Int32.ofInt (gw32 ((2 : Int) * v41)))))) (gu (gfl (FP.i2f (Int32.ofInt (gw32 (v12 + v21)))))))))) sh M41))))))))) : gC (gr 2 49) yX0_alike cX0_alike 5 (some (.float)) [(4, a0), (0, a1), (0, a2)] sh M Q := by
  refine gC_ofA (lv := [_, _, _, _, _]) (by decide +kernel) (Nat.le_of_ble_eq_true rfl) rfl (fun hMw hav => ?_)
  refine g_iload_n (q0 := 1) (j := 1) rfl dX0_alike_0 rfl ?_
  refine g_iload_n (q0 := 2) (j := 2) rfl dX0_alike_1 rfl ?_
  refine g_icmp_ne (q0 := 5) (tgt := 7) rfl dX0_alike_2 (by decide) (fun h2 => ?_) (fun h2 => ?_)
  · replace h := wI_neg h2 h
    refine g_iload_n (q0 := 8) (j := 1) rfl dX0_alike_7 rfl ?_
    refine g_aload_n (q0 := 9) (j := 0) rfl dX0_alike_8 rfl ?_
    obtain ⟨g1, h⟩ := h
    refine g_getp (q0 := 12) (b := (a0 + 12)) rfl ff_X0_46 dX0_alike_9 rfl hOK g1.2 g1.1 rfl rfl ?_
    obtain ⟨P12, e12, h⟩ := h
    refine g_callSm (as := [_, _]) (rest := []) mt_X0_spread ms_X0_spread ml_X0_103 dX0_alike_12 (q0 := 15) rfl rfl e12 rfl ⟨by decide, by decide⟩ (Nat.le_of_ble_eq_true rfl) ⟨Nat.zero_le _, Nat.zero_le _⟩ (fun r12 M12 hP12 hw12 hMw12 => ?_)
    obtain ⟨v12, hr12, hOK2, h⟩ := h r12 M12 hP12
    subst hr12
    refine g_istore_n (q0 := 16) (j := 3) (lv2 := [_, _, _, _, _]) rfl dX0_alike_15 (by decide) rfl rfl ?_
    refine g_iload_n (q0 := 17) (j := 2) rfl dX0_alike_16 rfl ?_
    refine g_aload_n (q0 := 18) (j := 0) rfl dX0_alike_17 rfl ?_
    refine g_getp (q0 := 21) (b := (a0 + 13)) rfl ff_X0_49 dX0_alike_18 rfl hOK2 g1.2 g1.1 rfl rfl ?_
    obtain ⟨P21, e21, h⟩ := h
    refine g_callSm (as := [_, _]) (rest := []) mt_X0_spread ms_X0_spread ml_X0_103 dX0_alike_21 (q0 := 24) rfl rfl e21 rfl ⟨by decide, by decide⟩ (Nat.le_of_ble_eq_true rfl) ⟨Nat.zero_le _, Nat.zero_le _⟩ (fun r21 M21 hP21 hw21 hMw21 => ?_)
    obtain ⟨v21, hr21, hOK3, h⟩ := h r21 M21 hP21
    subst hr21
    refine g_istore (q0 := 26) (j := 4) (lv2 := [_, _, _, _, _]) rfl dX0_alike_24 (by decide) rfl rfl ?_
    refine g_iload_n (q0 := 27) (j := 3) rfl dX0_alike_26 rfl ?_
    refine g_iload (q0 := 29) (j := 4) rfl dX0_alike_27 rfl ?_
    refine g_iaddw (q0 := 30) rfl dX0_alike_29 ?_
    refine g_iconst (q0 := 31) rfl dX0_alike_30 (k := ?_)
    refine g_icmp_ge (q0 := 34) (tgt := 36) rfl dX0_alike_31 (by decide) (fun h31 => ?_) (fun h31 => ?_)
    · replace h := wI_neg (Int.not_lt.mpr h31) h
      refine g_iconst (q0 := 37) rfl dX0_alike_36 (k := ?_)
      refine g_aload_n (q0 := 38) (j := 0) rfl dX0_alike_37 rfl ?_
      refine g_iload_n (q0 := 39) (j := 3) rfl dX0_alike_38 rfl ?_
      refine g_iload (q0 := 41) (j := 4) rfl dX0_alike_39 rfl ?_
      obtain ⟨P41, e41, h⟩ := h
      refine g_callVm (as := [_, _]) (rest := [_]) mt_X0_longestInBoth mi_X0_longestInBoth se_X0_longestInBoth ml_X0_107 dX0_alike_41 (q0 := 44) rfl rfl g1.1 rfl rfl e41 rfl ⟨by decide, by decide⟩ (Nat.le_of_ble_eq_true rfl) ⟨Nat.zero_le _, Nat.zero_le _⟩ (fun r41 M41 hP41 hw41 hMw41 => ?_)
      obtain ⟨v41, hr41, hOK4, h⟩ := h r41 M41 hP41
      subst hr41
      refine g_imulw (q0 := 45) rfl dX0_alike_44 ?_
      refine g_i2f (q0 := 46) rfl dX0_alike_45 ?_
      refine g_iload_n (q0 := 47) (j := 3) rfl dX0_alike_46 rfl ?_
      refine g_iload (q0 := 49) (j := 4) rfl dX0_alike_47 rfl ?_
      refine g_iaddw (q0 := 50) rfl dX0_alike_49 ?_
      refine g_i2f (q0 := 51) rfl dX0_alike_50 ?_
      obtain ⟨g5, h⟩ := h
      refine g_fdiv (q0 := 52) rfl dX0_alike_51 g5 ?_
      exact g_freturn dX0_alike_52 rfl ⟨Nat.zero_le _, Nat.zero_le _⟩ h
    · replace h := wI_pos h31 h
      refine g_fconst0 (q0 := 35) rfl dX0_alike_34 ?_
      exact g_freturn dX0_alike_35 rfl ⟨Nat.zero_le _, Nat.zero_le _⟩ h
  · replace h := wI_pos h2 h
    refine g_fconst1 (q0 := 6) rfl dX0_alike_5 ?_
    exact g_freturn dX0_alike_6 rfl ⟨Nat.zero_le _, Nat.zero_le _⟩ h
-- ==== X0_spread
theorem dX0_spread_0 : decode cX0_spread 0 = .ok (.iload_n 0, 1) := by decide +kernel
theorem dX0_spread_1 : decode cX0_spread 1 = .ok (.invokestatic 111, 3) := by decide +kernel
theorem dX0_spread_4 : decode cX0_spread 4 = .ok (.istore_n 2, 1) := by decide +kernel
theorem dX0_spread_5 : decode cX0_spread 5 = .ok (.iload_n 0, 1) := by decide +kernel
theorem dX0_spread_6 : decode cX0_spread 6 = .ok (.istore_n 3, 1) := by decide +kernel
theorem dX0_spread_7 : decode cX0_spread 7 = .ok (.iload_n 2, 1) := by decide +kernel
theorem dX0_spread_8 : decode cX0_spread 8 = .ok (.iconst 1, 1) := by decide +kernel
theorem dX0_spread_9 : decode cX0_spread 9 = .ok (.isub, 1) := by decide +kernel
theorem dX0_spread_10 : decode cX0_spread 10 = .ok (.istore 4, 2) := by decide +kernel
theorem dX0_spread_12 : decode cX0_spread 12 = .ok (.iload 4, 2) := by decide +kernel
theorem dX0_spread_14 : decode cX0_spread 14 = .ok (.ifCond .lt 22, 3) := by decide +kernel
theorem dX0_spread_17 : decode cX0_spread 17 = .ok (.aload_n 1, 1) := by decide +kernel
theorem dX0_spread_18 : decode cX0_spread 18 = .ok (.iload 4, 2) := by decide +kernel
theorem dX0_spread_20 : decode cX0_spread 20 = .ok (.iload_n 3, 1) := by decide +kernel
theorem dX0_spread_21 : decode cX0_spread 21 = .ok (.bipush 10, 2) := by decide +kernel
theorem dX0_spread_23 : decode cX0_spread 23 = .ok (.irem, 1) := by decide +kernel
theorem dX0_spread_24 : decode cX0_spread 24 = .ok (.iastore, 1) := by decide +kernel
theorem dX0_spread_25 : decode cX0_spread 25 = .ok (.iload_n 3, 1) := by decide +kernel
theorem dX0_spread_26 : decode cX0_spread 26 = .ok (.bipush 10, 2) := by decide +kernel
theorem dX0_spread_28 : decode cX0_spread 28 = .ok (.idiv, 1) := by decide +kernel
theorem dX0_spread_29 : decode cX0_spread 29 = .ok (.istore_n 3, 1) := by decide +kernel
theorem dX0_spread_30 : decode cX0_spread 30 = .ok (.iinc 4 (-1), 3) := by decide +kernel
theorem dX0_spread_33 : decode cX0_spread 33 = .ok (.goto (-21), 3) := by decide +kernel
theorem dX0_spread_36 : decode cX0_spread 36 = .ok (.iload_n 2, 1) := by decide +kernel
theorem dX0_spread_37 : decode cX0_spread 37 = .ok (.ireturn, 1) := by decide +kernel
def P_X0_spread_12 (sh : gS) (Q : Option gV → gS → gM → Prop) (x0 x1 x2 x3 x4 : Int) (M : gM) : Prop := gA (gr 1 22) yX0_spread cX0_spread 5 (some (.int)) Q (0, 0) 12 [(0, x0), (4, x1), (0, x2), (0, x3), (0, x4)] [] sh M
theorem w_X0_spread_12 {sh : gS} {Q : Option gV → gS → gM → Prop} {x0 x1 x2 x3 x4 : Int} {M : gM} (hOK : gOK sh M) (h : (if x4 < 0 then
    (Q (some (0, x2)) sh M)
  else
    (∃ n1 : Nat, gsh sh x1 = some (1, n1) ∧
      ((0 ≤ x4 ∧ x4 < (n1 : Int)) ∧
        (P_X0_spread_12 sh Q x0 x1 x2 (gdiv x3 10) (gw32 (x4 + (-1))) (gU M x1 x4 (grem x3 10))))))) : P_X0_spread_12 sh Q x0 x1 x2 x3 x4 M := by
  unfold P_X0_spread_12
  refine g_iload (q0 := 14) (j := 4) rfl dX0_spread_12 rfl ?_
  refine g_if_lt (q0 := 17) (tgt := 36) rfl dX0_spread_14 (by decide) (fun h14 => ?_) (fun h14 => ?_)
  · replace h := wI_pos h14 h
    refine g_iload_n (q0 := 37) (j := 2) rfl dX0_spread_36 rfl ?_
    exact g_ireturn dX0_spread_37 rfl ⟨Nat.zero_le _, Nat.zero_le _⟩ h
  · replace h := wI_neg (Int.not_lt.mpr h14) h
    refine g_aload_n (q0 := 18) (j := 1) rfl dX0_spread_17 rfl ?_
    refine g_iload (q0 := 20) (j := 4) rfl dX0_spread_18 rfl ?_
    refine g_iload_n (q0 := 21) (j := 3) rfl dX0_spread_20 rfl ?_
    refine g_bipush (q0 := 23) rfl dX0_spread_21 (k := ?_)
    refine g_irem (q0 := 24) rfl dX0_spread_23 (by decide) ?_
    obtain ⟨n1, sn1, h⟩ := h
    obtain ⟨g2, h⟩ := h
    refine g_iast (q0 := 25) rfl dX0_spread_24 sn1 g2.1 g2.2 ?_
    have hOK3 : gOK sh (gU M x1 x4 (grem x3 10)) := gOK_i hOK sn1
    refine g_iload_n (q0 := 26) (j := 3) rfl dX0_spread_25 rfl ?_
    refine g_bipush (q0 := 28) rfl dX0_spread_26 (k := ?_)
    refine g_idiv (q0 := 29) rfl dX0_spread_28 (by decide) ?_
    refine g_istore_n (q0 := 30) (j := 3) (lv2 := [_, _, _, _, _]) rfl dX0_spread_29 (by decide) rfl rfl ?_
    refine g_iincw (q0 := 33) (lv2 := [_, _, _, _, _]) rfl dX0_spread_30 rfl (by decide) rfl rfl ?_
    refine g_goto (tgt := 12) dX0_spread_33 (by decide) ?_
    exact h
theorem w_X0_spread {sh : gS} {Q : Option gV → gS → gM → Prop} {a0 a1 : Int} {M : gM} (hOK : gOK sh M) (h : (∃ v1 : Int, gC (gr 0 0) yX0_digitsIn cX0_digitsIn 3 (some (.int)) [(0, a0)] sh M (gPp sh M (0, v1)) ∧
    (P_X0_spread_12 sh Q a0 a1 v1 a0 (gw32 (v1 - (1 : Int))) M))) : gC (gr 1 22) yX0_spread cX0_spread 5 (some (.int)) [(0, a0), (4, a1)] sh M Q := by
  refine gC_ofA (lv := [_, _, _, _, _]) (by decide +kernel) (Nat.le_of_ble_eq_true rfl) rfl (fun hMw hav => ?_)
  refine g_iload_n (q0 := 1) (j := 0) rfl dX0_spread_0 rfl ?_
  obtain ⟨v1, e1, h⟩ := h
  refine g_callSp (as := [_]) (rest := []) mt_X0_digitsIn ms_X0_digitsIn ml_X0_111 dX0_spread_1 (q0 := 4) rfl rfl e1 rfl ⟨by decide, by decide⟩ (Nat.le_of_ble_eq_true rfl) ⟨Nat.zero_le _, Nat.zero_le _⟩ (fun _ => ?_)
  refine g_istore_n (q0 := 5) (j := 2) (lv2 := [_, _, _, _, _]) rfl dX0_spread_4 (by decide) rfl rfl ?_
  refine g_iload_n (q0 := 6) (j := 0) rfl dX0_spread_5 rfl ?_
  refine g_istore_n (q0 := 7) (j := 3) (lv2 := [_, _, _, _, _]) rfl dX0_spread_6 (by decide) rfl rfl ?_
  refine g_iload_n (q0 := 8) (j := 2) rfl dX0_spread_7 rfl ?_
  refine g_iconst (q0 := 9) rfl dX0_spread_8 (k := ?_)
  refine g_isubw (q0 := 10) rfl dX0_spread_9 ?_
  refine g_istore (q0 := 12) (j := 4) (lv2 := [_, _, _, _, _]) rfl dX0_spread_10 (by decide) rfl rfl ?_
  exact h
-- ==== X0_longestInBoth
theorem dX0_longestInBoth_0 : decode cX0_longestInBoth 0 = .ok (.aload_n 0, 1) := by decide +kernel
theorem dX0_longestInBoth_1 : decode cX0_longestInBoth 1 = .ok (.getfield 52, 3) := by decide +kernel
theorem dX0_longestInBoth_4 : decode cX0_longestInBoth 4 = .ok (.iconst 0, 1) := by decide +kernel
theorem dX0_longestInBoth_5 : decode cX0_longestInBoth 5 = .ok (.invokestatic 114, 3) := by decide +kernel
theorem dX0_longestInBoth_8 : decode cX0_longestInBoth 8 = .ok (.iconst 0, 1) := by decide +kernel
theorem dX0_longestInBoth_9 : decode cX0_longestInBoth 9 = .ok (.istore_n 3, 1) := by decide +kernel
theorem dX0_longestInBoth_10 : decode cX0_longestInBoth 10 = .ok (.iload_n 3, 1) := by decide +kernel
theorem dX0_longestInBoth_11 : decode cX0_longestInBoth 11 = .ok (.iload_n 1, 1) := by decide +kernel
theorem dX0_longestInBoth_12 : decode cX0_longestInBoth 12 = .ok (.if_icmp .ge 86, 3) := by decide +kernel
theorem dX0_longestInBoth_15 : decode cX0_longestInBoth 15 = .ok (.iconst 0, 1) := by decide +kernel
theorem dX0_longestInBoth_16 : decode cX0_longestInBoth 16 = .ok (.istore 4, 2) := by decide +kernel
theorem dX0_longestInBoth_18 : decode cX0_longestInBoth 18 = .ok (.iconst 0, 1) := by decide +kernel
theorem dX0_longestInBoth_19 : decode cX0_longestInBoth 19 = .ok (.istore 5, 2) := by decide +kernel
theorem dX0_longestInBoth_21 : decode cX0_longestInBoth 21 = .ok (.iload 5, 2) := by decide +kernel
theorem dX0_longestInBoth_23 : decode cX0_longestInBoth 23 = .ok (.iload_n 2, 1) := by decide +kernel
theorem dX0_longestInBoth_24 : decode cX0_longestInBoth 24 = .ok (.if_icmp .ge 68, 3) := by decide +kernel
theorem dX0_longestInBoth_27 : decode cX0_longestInBoth 27 = .ok (.aload_n 0, 1) := by decide +kernel
theorem dX0_longestInBoth_28 : decode cX0_longestInBoth 28 = .ok (.getfield 52, 3) := by decide +kernel
theorem dX0_longestInBoth_31 : decode cX0_longestInBoth 31 = .ok (.iload 5, 2) := by decide +kernel
theorem dX0_longestInBoth_33 : decode cX0_longestInBoth 33 = .ok (.iconst 1, 1) := by decide +kernel
theorem dX0_longestInBoth_34 : decode cX0_longestInBoth 34 = .ok (.iadd, 1) := by decide +kernel
theorem dX0_longestInBoth_35 : decode cX0_longestInBoth 35 = .ok (.iaload, 1) := by decide +kernel
theorem dX0_longestInBoth_36 : decode cX0_longestInBoth 36 = .ok (.istore 6, 2) := by decide +kernel
theorem dX0_longestInBoth_38 : decode cX0_longestInBoth 38 = .ok (.aload_n 0, 1) := by decide +kernel
theorem dX0_longestInBoth_39 : decode cX0_longestInBoth 39 = .ok (.getfield 52, 3) := by decide +kernel
theorem dX0_longestInBoth_42 : decode cX0_longestInBoth 42 = .ok (.iload 5, 2) := by decide +kernel
theorem dX0_longestInBoth_44 : decode cX0_longestInBoth 44 = .ok (.iconst 1, 1) := by decide +kernel
theorem dX0_longestInBoth_45 : decode cX0_longestInBoth 45 = .ok (.iadd, 1) := by decide +kernel
theorem dX0_longestInBoth_46 : decode cX0_longestInBoth 46 = .ok (.aload_n 0, 1) := by decide +kernel
theorem dX0_longestInBoth_47 : decode cX0_longestInBoth 47 = .ok (.getfield 46, 3) := by decide +kernel
theorem dX0_longestInBoth_50 : decode cX0_longestInBoth 50 = .ok (.iload_n 3, 1) := by decide +kernel
theorem dX0_longestInBoth_51 : decode cX0_longestInBoth 51 = .ok (.iaload, 1) := by decide +kernel
theorem dX0_longestInBoth_52 : decode cX0_longestInBoth 52 = .ok (.aload_n 0, 1) := by decide +kernel
theorem dX0_longestInBoth_53 : decode cX0_longestInBoth 53 = .ok (.getfield 49, 3) := by decide +kernel
theorem dX0_longestInBoth_56 : decode cX0_longestInBoth 56 = .ok (.iload 5, 2) := by decide +kernel
theorem dX0_longestInBoth_58 : decode cX0_longestInBoth 58 = .ok (.iaload, 1) := by decide +kernel
theorem dX0_longestInBoth_59 : decode cX0_longestInBoth 59 = .ok (.if_icmp .ne 10, 3) := by decide +kernel
theorem dX0_longestInBoth_62 : decode cX0_longestInBoth 62 = .ok (.iload 4, 2) := by decide +kernel
theorem dX0_longestInBoth_64 : decode cX0_longestInBoth 64 = .ok (.iconst 1, 1) := by decide +kernel
theorem dX0_longestInBoth_65 : decode cX0_longestInBoth 65 = .ok (.iadd, 1) := by decide +kernel
theorem dX0_longestInBoth_66 : decode cX0_longestInBoth 66 = .ok (.goto 15, 3) := by decide +kernel
theorem dX0_longestInBoth_69 : decode cX0_longestInBoth 69 = .ok (.iload 6, 2) := by decide +kernel
theorem dX0_longestInBoth_71 : decode cX0_longestInBoth 71 = .ok (.aload_n 0, 1) := by decide +kernel
theorem dX0_longestInBoth_72 : decode cX0_longestInBoth 72 = .ok (.getfield 52, 3) := by decide +kernel
theorem dX0_longestInBoth_75 : decode cX0_longestInBoth 75 = .ok (.iload 5, 2) := by decide +kernel
theorem dX0_longestInBoth_77 : decode cX0_longestInBoth 77 = .ok (.iaload, 1) := by decide +kernel
theorem dX0_longestInBoth_78 : decode cX0_longestInBoth 78 = .ok (.invokestatic 120, 3) := by decide +kernel
theorem dX0_longestInBoth_81 : decode cX0_longestInBoth 81 = .ok (.iastore, 1) := by decide +kernel
theorem dX0_longestInBoth_82 : decode cX0_longestInBoth 82 = .ok (.iload 6, 2) := by decide +kernel
theorem dX0_longestInBoth_84 : decode cX0_longestInBoth 84 = .ok (.istore 4, 2) := by decide +kernel
theorem dX0_longestInBoth_86 : decode cX0_longestInBoth 86 = .ok (.iinc 5 1, 3) := by decide +kernel
theorem dX0_longestInBoth_89 : decode cX0_longestInBoth 89 = .ok (.goto (-68), 3) := by decide +kernel
theorem dX0_longestInBoth_92 : decode cX0_longestInBoth 92 = .ok (.iinc 3 1, 3) := by decide +kernel
theorem dX0_longestInBoth_95 : decode cX0_longestInBoth 95 = .ok (.goto (-85), 3) := by decide +kernel
theorem dX0_longestInBoth_98 : decode cX0_longestInBoth 98 = .ok (.aload_n 0, 1) := by decide +kernel
theorem dX0_longestInBoth_99 : decode cX0_longestInBoth 99 = .ok (.getfield 52, 3) := by decide +kernel
theorem dX0_longestInBoth_102 : decode cX0_longestInBoth 102 = .ok (.iload_n 2, 1) := by decide +kernel
theorem dX0_longestInBoth_103 : decode cX0_longestInBoth 103 = .ok (.iaload, 1) := by decide +kernel
theorem dX0_longestInBoth_104 : decode cX0_longestInBoth 104 = .ok (.ireturn, 1) := by decide +kernel
def P_X0_longestInBoth_10 (sh : gS) (Q : Option gV → gS → gM → Prop) (x0 x1 x2 x3 : Int) (M : gM) : Prop := gA (gr 1 23) yX0_longestInBoth cX0_longestInBoth 7 (some (.int)) Q (0, 0) 10 [(4, x0), (0, x1), (0, x2), (0, x3), (9, 0), (9, 0), (9, 0)] [] sh M
def P_X0_longestInBoth_21 (sh : gS) (Q : Option gV → gS → gM → Prop) (x0 x1 x2 x3 x4 x5 : Int) (M : gM) : Prop := gA (gr 1 23) yX0_longestInBoth cX0_longestInBoth 7 (some (.int)) Q (0, 0) 21 [(4, x0), (0, x1), (0, x2), (0, x3), (0, x4), (0, x5), (9, 0)] [] sh M
theorem w_X0_longestInBoth_10 {sh : gS} {Q : Option gV → gS → gM → Prop} {x0 x1 x2 x3 : Int} {M : gM} (hOK : gOK sh M) (h : (if x3 < x1 then
    (P_X0_longestInBoth_21 sh Q x0 x1 x2 x3 0 0 M)
  else
    ((gsh sh x0 = some (0, 1) ∧ x0 < 758) ∧
      (∃ n2 : Nat, gsh sh (x0 + 14) = some (1, n2) ∧
        ((0 ≤ x2 ∧ x2 < (n2 : Int)) ∧
          (Q (some (0, (M (x0 + 14) x2))) sh M)))))) : P_X0_longestInBoth_10 sh Q x0 x1 x2 x3 M := by
  unfold P_X0_longestInBoth_10
  refine g_iload_n (q0 := 11) (j := 3) rfl dX0_longestInBoth_10 rfl ?_
  refine g_iload_n (q0 := 12) (j := 1) rfl dX0_longestInBoth_11 rfl ?_
  refine g_icmp_ge (q0 := 15) (tgt := 98) rfl dX0_longestInBoth_12 (by decide) (fun h12 => ?_) (fun h12 => ?_)
  · replace h := wI_neg (Int.not_lt.mpr h12) h
    refine g_aload_n (q0 := 99) (j := 0) rfl dX0_longestInBoth_98 rfl ?_
    obtain ⟨g1, h⟩ := h
    refine g_getp (q0 := 102) (b := (x0 + 14)) rfl ff_X0_52 dX0_longestInBoth_99 rfl hOK g1.2 g1.1 rfl rfl ?_
    refine g_iload_n (q0 := 103) (j := 2) rfl dX0_longestInBoth_102 rfl ?_
    obtain ⟨n2, sn2, h⟩ := h
    obtain ⟨g3, h⟩ := h
    refine g_iald (q0 := 104) rfl dX0_longestInBoth_103 sn2 g3.1 g3.2 ?_
    exact g_ireturn dX0_longestInBoth_104 rfl ⟨Nat.zero_le _, Nat.zero_le _⟩ h
  · replace h := wI_pos h12 h
    refine g_iconst (q0 := 16) rfl dX0_longestInBoth_15 (k := ?_)
    refine g_istore (q0 := 18) (j := 4) (lv2 := [_, _, _, _, _, _, _]) rfl dX0_longestInBoth_16 (by decide) rfl rfl ?_
    refine g_iconst (q0 := 19) rfl dX0_longestInBoth_18 (k := ?_)
    refine g_istore (q0 := 21) (j := 5) (lv2 := [_, _, _, _, _, _, _]) rfl dX0_longestInBoth_19 (by decide) rfl rfl ?_
    exact h
theorem w_X0_longestInBoth_21 {sh : gS} {Q : Option gV → gS → gM → Prop} {x0 x1 x2 x3 x4 x5 : Int} {M : gM} (hOK : gOK sh M) (h : (if x5 < x2 then
    ((gsh sh x0 = some (0, 1) ∧ x0 < 758) ∧
      (∃ n5 : Nat, gsh sh (x0 + 14) = some (1, n5) ∧
        ((0 ≤ (gw32 (x5 + (1 : Int))) ∧ (gw32 (x5 + (1 : Int))) < (n5 : Int)) ∧
          (∃ n7 : Nat, gsh sh (x0 + 12) = some (1, n7) ∧
            ((0 ≤ x3 ∧ x3 < (n7 : Int)) ∧
              (∃ n9 : Nat, gsh sh (x0 + 13) = some (1, n9) ∧
                ((0 ≤ x5 ∧ x5 < (n9 : Int)) ∧
                  (if (M (x0 + 12) x3) = (M (x0 + 13) x5) then
                    (P_X0_longestInBoth_21 sh Q x0 x1 x2 x3 (M (x0 + 14) (gw32 (x5 + (1 : Int)))) (gw32 (x5 + 1)) (gU M (x0 + 14) (gw32 (x5 + (1 : Int))) (gw32 (x4 + (1 : Int)))))
                  else
                    ((0 ≤ x5 ∧ x5 < (n5 : Int)) ∧
                      (P_X0_longestInBoth_21 sh Q x0 x1 x2 x3 (M (x0 + 14) (gw32 (x5 + (1 : Int)))) (gw32 (x5 + 1)) (gU M (x0 + 14) (gw32 (x5 + (1 : Int))) (if (M (x0 + 14) (gw32 (x5 + (1 : Int)))) < (M (x0 + 14) x5) then (M (x0 + 14) x5) else (M (x0 + 14) (gw32 (x5 + (1 : Int))))))))))))))))
  else
    (P_X0_longestInBoth_10 sh Q x0 x1 x2 (gw32 (x3 + 1)) M))) : P_X0_longestInBoth_21 sh Q x0 x1 x2 x3 x4 x5 M := by
  unfold P_X0_longestInBoth_21
  refine g_iload (q0 := 23) (j := 5) rfl dX0_longestInBoth_21 rfl ?_
  refine g_iload_n (q0 := 24) (j := 2) rfl dX0_longestInBoth_23 rfl ?_
  refine g_icmp_ge (q0 := 27) (tgt := 92) rfl dX0_longestInBoth_24 (by decide) (fun h24 => ?_) (fun h24 => ?_)
  · replace h := wI_neg (Int.not_lt.mpr h24) h
    refine g_iincw (q0 := 95) (lv2 := [_, _, _, _, _, _, _]) rfl dX0_longestInBoth_92 rfl (by decide) rfl rfl ?_
    refine g_goto (tgt := 10) dX0_longestInBoth_95 (by decide) ?_
    refine gA_jk (lv1 := [_, _, _, _, (9, 0), (9, 0), (9, 0)]) ⟨.inl rfl, .inl rfl, .inl rfl, .inl rfl, .inr rfl, .inr rfl, .inr rfl, trivial⟩ ?_
    exact h
  · replace h := wI_pos h24 h
    refine g_aload_n (q0 := 28) (j := 0) rfl dX0_longestInBoth_27 rfl ?_
    obtain ⟨g4, h⟩ := h
    refine g_getp (q0 := 31) (b := (x0 + 14)) rfl ff_X0_52 dX0_longestInBoth_28 rfl hOK g4.2 g4.1 rfl rfl ?_
    refine g_iload (q0 := 33) (j := 5) rfl dX0_longestInBoth_31 rfl ?_
    refine g_iconst (q0 := 34) rfl dX0_longestInBoth_33 (k := ?_)
    refine g_iaddw (q0 := 35) rfl dX0_longestInBoth_34 ?_
    obtain ⟨n5, sn5, h⟩ := h
    obtain ⟨g6, h⟩ := h
    refine g_iald (q0 := 36) rfl dX0_longestInBoth_35 sn5 g6.1 g6.2 ?_
    refine g_istore (q0 := 38) (j := 6) (lv2 := [_, _, _, _, _, _, _]) rfl dX0_longestInBoth_36 (by decide) rfl rfl ?_
    refine g_aload_n (q0 := 39) (j := 0) rfl dX0_longestInBoth_38 rfl ?_
    refine g_getp (q0 := 42) (b := (x0 + 14)) rfl ff_X0_52 dX0_longestInBoth_39 rfl hOK g4.2 g4.1 rfl rfl ?_
    refine g_iload (q0 := 44) (j := 5) rfl dX0_longestInBoth_42 rfl ?_
    refine g_iconst (q0 := 45) rfl dX0_longestInBoth_44 (k := ?_)
    refine g_iaddw (q0 := 46) rfl dX0_longestInBoth_45 ?_
    refine g_aload_n (q0 := 47) (j := 0) rfl dX0_longestInBoth_46 rfl ?_
    refine g_getp (q0 := 50) (b := (x0 + 12)) rfl ff_X0_46 dX0_longestInBoth_47 rfl hOK g4.2 g4.1 rfl rfl ?_
    refine g_iload_n (q0 := 51) (j := 3) rfl dX0_longestInBoth_50 rfl ?_
    obtain ⟨n7, sn7, h⟩ := h
    obtain ⟨g8, h⟩ := h
    refine g_iald (q0 := 52) rfl dX0_longestInBoth_51 sn7 g8.1 g8.2 ?_
    refine g_aload_n (q0 := 53) (j := 0) rfl dX0_longestInBoth_52 rfl ?_
    refine g_getp (q0 := 56) (b := (x0 + 13)) rfl ff_X0_49 dX0_longestInBoth_53 rfl hOK g4.2 g4.1 rfl rfl ?_
    refine g_iload (q0 := 58) (j := 5) rfl dX0_longestInBoth_56 rfl ?_
    obtain ⟨n9, sn9, h⟩ := h
    obtain ⟨g10, h⟩ := h
    refine g_iald (q0 := 59) rfl dX0_longestInBoth_58 sn9 g10.1 g10.2 ?_
    refine g_icmp_ne (q0 := 62) (tgt := 69) rfl dX0_longestInBoth_59 (by decide) (fun h59 => ?_) (fun h59 => ?_)
    · replace h := wI_neg h59 h
      refine g_iload (q0 := 71) (j := 6) rfl dX0_longestInBoth_69 rfl ?_
      refine g_aload_n (q0 := 72) (j := 0) rfl dX0_longestInBoth_71 rfl ?_
      refine g_getp (q0 := 75) (b := (x0 + 14)) rfl ff_X0_52 dX0_longestInBoth_72 rfl hOK g4.2 g4.1 rfl rfl ?_
      refine g_iload (q0 := 77) (j := 5) rfl dX0_longestInBoth_75 rfl ?_
      obtain ⟨g11, h⟩ := h
      refine g_iald (q0 := 78) rfl dX0_longestInBoth_77 sn5 g11.1 g11.2 ?_
      refine g_mmax (q0 := 81) rfl ml_X0_120 ms_J9_max_7cf53 inic_Math mt_J9_max_7cf53.1 dX0_longestInBoth_78 (by decide) (Nat.le_of_ble_eq_true rfl) ⟨Nat.zero_le _, Nat.zero_le _⟩ ?_
      refine g_iast (q0 := 82) rfl dX0_longestInBoth_81 sn5 g6.1 g6.2 ?_
      have hOK12 : gOK sh (gU M (x0 + 14) (gw32 (x5 + (1 : Int))) (if (M (x0 + 14) (gw32 (x5 + (1 : Int)))) < (M (x0 + 14) x5) then (M (x0 + 14) x5) else (M (x0 + 14) (gw32 (x5 + (1 : Int)))))) := gOK_i hOK sn5
      refine g_iload (q0 := 84) (j := 6) rfl dX0_longestInBoth_82 rfl ?_
      refine g_istore (q0 := 86) (j := 4) (lv2 := [_, _, _, _, _, _, _]) rfl dX0_longestInBoth_84 (by decide) rfl rfl ?_
      refine g_iincw (q0 := 89) (lv2 := [_, _, _, _, _, _, _]) rfl dX0_longestInBoth_86 rfl (by decide) rfl rfl ?_
      refine g_goto (tgt := 21) dX0_longestInBoth_89 (by decide) ?_
      refine gA_jk (lv1 := [_, _, _, _, _, _, (9, 0)]) ⟨.inl rfl, .inl rfl, .inl rfl, .inl rfl, .inl rfl, .inl rfl, .inr rfl, trivial⟩ ?_
      exact h
    · replace h := wI_pos h59 h
      refine g_iload (q0 := 64) (j := 4) rfl dX0_longestInBoth_62 rfl ?_
      refine g_iconst (q0 := 65) rfl dX0_longestInBoth_64 (k := ?_)
      refine g_iaddw (q0 := 66) rfl dX0_longestInBoth_65 ?_
      refine g_goto (tgt := 81) dX0_longestInBoth_66 (by decide) ?_
      refine g_iast (q0 := 82) rfl dX0_longestInBoth_81 sn5 g6.1 g6.2 ?_
      have hOK13 : gOK sh (gU M (x0 + 14) (gw32 (x5 + (1 : Int))) (gw32 (x4 + (1 : Int)))) := gOK_i hOK sn5
      refine g_iload (q0 := 84) (j := 6) rfl dX0_longestInBoth_82 rfl ?_
      refine g_istore (q0 := 86) (j := 4) (lv2 := [_, _, _, _, _, _, _]) rfl dX0_longestInBoth_84 (by decide) rfl rfl ?_
      refine g_iincw (q0 := 89) (lv2 := [_, _, _, _, _, _, _]) rfl dX0_longestInBoth_86 rfl (by decide) rfl rfl ?_
      refine g_goto (tgt := 21) dX0_longestInBoth_89 (by decide) ?_
      refine gA_jk (lv1 := [_, _, _, _, _, _, (9, 0)]) ⟨.inl rfl, .inl rfl, .inl rfl, .inl rfl, .inl rfl, .inl rfl, .inr rfl, trivial⟩ ?_
      exact h
theorem w_X0_longestInBoth {sh : gS} {Q : Option gV → gS → gM → Prop} {a0 a1 a2 : Int} {M : gM} (hOK : gOK sh M) (h : ((gsh sh a0 = some (0, 1) ∧ a0 < 758) ∧
    (∃ P5 : Option gV → gM → Prop, gC (gr 0 0) yJ7_fill_53178 cJ7_fill_53178 4 none [(4, (a0 + 14)), (0, 0)] sh M (gPm sh P5) ∧ ∀ (r5 : Option gV) (M5 : gM), P5 r5 M5 → r5 = none ∧ gOK sh M5 ∧
      (P_X0_longestInBoth_10 sh Q a0 a1 a2 0 M5)))) : gC (gr 1 23) yX0_longestInBoth cX0_longestInBoth 7 (some (.int)) [(4, a0), (0, a1), (0, a2)] sh M Q := by
  refine gC_ofA (lv := [_, _, _, _, _, _, _]) (by decide +kernel) (Nat.le_of_ble_eq_true rfl) rfl (fun hMw hav => ?_)
  refine g_aload_n (q0 := 1) (j := 0) rfl dX0_longestInBoth_0 rfl ?_
  obtain ⟨g14, h⟩ := h
  refine g_getp (q0 := 4) (b := (a0 + 14)) rfl ff_X0_52 dX0_longestInBoth_1 rfl hOK g14.2 g14.1 rfl rfl ?_
  refine g_iconst (q0 := 5) rfl dX0_longestInBoth_4 (k := ?_)
  obtain ⟨P5, e5, h⟩ := h
  refine g_callSm (as := [_, _]) (rest := []) mt_J7_fill_53178 ms_J7_fill_53178 ml_X0_114 dX0_longestInBoth_5 (q0 := 8) rfl rfl e5 rfl ⟨by decide, by decide⟩ (Nat.le_of_ble_eq_true rfl) ⟨Nat.zero_le _, Nat.zero_le _⟩ (fun r5 M5 hP5 hw5 hMw5 => ?_)
  obtain ⟨hr5, hOK15, h⟩ := h r5 M5 hP5
  subst hr5
  refine g_iconst (q0 := 9) rfl dX0_longestInBoth_8 (k := ?_)
  refine g_istore_n (q0 := 10) (j := 3) (lv2 := [_, _, _, _, _, _, _]) rfl dX0_longestInBoth_9 (by decide) rfl rfl ?_
  exact h
-- ==== X6_read
theorem dX6_read_0 : decode cX6_read 0 = .ok (.aload_n 0, 1) := by decide +kernel
theorem dX6_read_1 : decode cX6_read 1 = .ok (.iload_n 3, 1) := by decide +kernel
theorem dX6_read_2 : decode cX6_read 2 = .ok (.putfield 18, 3) := by decide +kernel
theorem dX6_read_5 : decode cX6_read 5 = .ok (.aload_n 0, 1) := by decide +kernel
theorem dX6_read_6 : decode cX6_read 6 = .ok (.iconst 0, 1) := by decide +kernel
theorem dX6_read_7 : decode cX6_read 7 = .ok (.putfield 22, 3) := by decide +kernel
theorem dX6_read_10 : decode cX6_read 10 = .ok (.aload_n 1, 1) := by decide +kernel
theorem dX6_read_11 : decode cX6_read 11 = .ok (.iload_n 2, 1) := by decide +kernel
theorem dX6_read_12 : decode cX6_read 12 = .ok (.invokevirtual 25, 3) := by decide +kernel
theorem dX6_read_15 : decode cX6_read 15 = .ok (.aload_n 0, 1) := by decide +kernel
theorem dX6_read_16 : decode cX6_read 16 = .ok (.getfield 12, 3) := by decide +kernel
theorem dX6_read_19 : decode cX6_read 19 = .ok (.invokevirtual 31, 3) := by decide +kernel
theorem dX6_read_22 : decode cX6_read 22 = .ok (.iconst 0, 1) := by decide +kernel
theorem dX6_read_23 : decode cX6_read 23 = .ok (.istore 4, 2) := by decide +kernel
theorem dX6_read_25 : decode cX6_read 25 = .ok (.iload 4, 2) := by decide +kernel
theorem dX6_read_27 : decode cX6_read 27 = .ok (.sipush 240, 3) := by decide +kernel
theorem dX6_read_30 : decode cX6_read 30 = .ok (.if_icmp .ge 65, 3) := by decide +kernel
theorem dX6_read_33 : decode cX6_read 33 = .ok (.aload_n 0, 1) := by decide +kernel
theorem dX6_read_34 : decode cX6_read 34 = .ok (.aload_n 1, 1) := by decide +kernel
theorem dX6_read_35 : decode cX6_read 35 = .ok (.invokevirtual 33, 3) := by decide +kernel
theorem dX6_read_38 : decode cX6_read 38 = .ok (.aload_n 1, 1) := by decide +kernel
theorem dX6_read_39 : decode cX6_read 39 = .ok (.invokevirtual 37, 3) := by decide +kernel
theorem dX6_read_42 : decode cX6_read 42 = .ok (.ifCond .eq 18, 3) := by decide +kernel
theorem dX6_read_45 : decode cX6_read 45 = .ok (.aload_n 0, 1) := by decide +kernel
theorem dX6_read_46 : decode cX6_read 46 = .ok (.getfield 12, 3) := by decide +kernel
theorem dX6_read_49 : decode cX6_read 49 = .ok (.getfield 41, 3) := by decide +kernel
theorem dX6_read_52 : decode cX6_read 52 = .ok (.iconst 2, 1) := by decide +kernel
theorem dX6_read_53 : decode cX6_read 53 = .ok (.if_icmp .lt 7, 3) := by decide +kernel
theorem dX6_read_56 : decode cX6_read 56 = .ok (.iconst 1, 1) := by decide +kernel
theorem dX6_read_57 : decode cX6_read 57 = .ok (.goto 4, 3) := by decide +kernel
theorem dX6_read_60 : decode cX6_read 60 = .ok (.iconst 0, 1) := by decide +kernel
theorem dX6_read_61 : decode cX6_read 61 = .ok (.istore 5, 2) := by decide +kernel
theorem dX6_read_63 : decode cX6_read 63 = .ok (.aload_n 1, 1) := by decide +kernel
theorem dX6_read_64 : decode cX6_read 64 = .ok (.getfield 44, 3) := by decide +kernel
theorem dX6_read_67 : decode cX6_read 67 = .ok (.ifCond .ne 17, 3) := by decide +kernel
theorem dX6_read_70 : decode cX6_read 70 = .ok (.iload 5, 2) := by decide +kernel
theorem dX6_read_72 : decode cX6_read 72 = .ok (.ifCond .ne 12, 3) := by decide +kernel
theorem dX6_read_75 : decode cX6_read 75 = .ok (.aload_n 1, 1) := by decide +kernel
theorem dX6_read_76 : decode cX6_read 76 = .ok (.bipush 59, 2) := by decide +kernel
theorem dX6_read_78 : decode cX6_read 78 = .ok (.invokevirtual 47, 3) := by decide +kernel
theorem dX6_read_81 : decode cX6_read 81 = .ok (.ifCond .ne 8, 3) := by decide +kernel
theorem dX6_read_84 : decode cX6_read 84 = .ok (.aload_n 1, 1) := by decide +kernel
theorem dX6_read_85 : decode cX6_read 85 = .ok (.getfield 44, 3) := by decide +kernel
theorem dX6_read_88 : decode cX6_read 88 = .ok (.ireturn, 1) := by decide +kernel
theorem dX6_read_89 : decode cX6_read 89 = .ok (.iinc 4 1, 3) := by decide +kernel
theorem dX6_read_92 : decode cX6_read 92 = .ok (.goto (-67), 3) := by decide +kernel
theorem dX6_read_95 : decode cX6_read 95 = .ok (.aload_n 1, 1) := by decide +kernel
theorem dX6_read_96 : decode cX6_read 96 = .ok (.getfield 44, 3) := by decide +kernel
theorem dX6_read_99 : decode cX6_read 99 = .ok (.ireturn, 1) := by decide +kernel
def P_X6_read_25 (sh : gS) (Q : Option gV → gS → gM → Prop) (x1 x2 x3 x4 : Int) (M : gM) : Prop := gA (gr 9 195) yX6_read cX6_read 6 (some (.int)) Q (0, 0) 25 [(4, 410), (4, x1), (0, x2), (0, x3), (0, x4), (9, 0)] [] sh M
def P_X6_read_61 (sh : gS) (Q : Option gV → gS → gM → Prop) (x1 x2 x3 x4 s0 : Int) (M : gM) : Prop := gA (gr 9 195) yX6_read cX6_read 6 (some (.int)) Q (0, 0) 61 [(4, 410), (4, x1), (0, x2), (0, x3), (0, x4), (9, 0)] [(0, s0)] sh M
theorem w_X6_read_25 {sh : gS} {Q : Option gV → gS → gM → Prop} {x1 x2 x3 x4 : Int} {M : gM} (hOK : gOK sh M) (h : (if x4 < 240 then
    (∃ P35 : Option gV → gM → Prop, gC (gr 8 171) yX6_readLine cX6_readLine 5 none [(4, 410), (4, x1)] sh M (gPm sh P35) ∧ ∀ (r35 : Option gV) (M35 : gM), P35 r35 M35 → r35 = none ∧ gOK sh M35 ∧
      ((gsh sh x1 = some (0, 10) ∧ x1 < 758) ∧
        (∃ v39 : Int, gC (gr 0 0) yX9_isAtEnd cX9_isAtEnd 1 (some (.boolean)) [(4, x1)] sh M35 (gPp sh M35 (0, v39)) ∧
          (if v39 = 0 then
            (P_X6_read_61 sh Q x1 x2 x3 x4 0 M35)
          else
            (if (M35 411 1) < 2 then
              (P_X6_read_61 sh Q x1 x2 x3 x4 0 M35)
            else
              (P_X6_read_61 sh Q x1 x2 x3 x4 1 M35))))))
  else
    ((gsh sh x1 = some (0, 10) ∧ x1 < 758) ∧
      (Q (some (0, (M x1 4))) sh M)))) : P_X6_read_25 sh Q x1 x2 x3 x4 M := by
  unfold P_X6_read_25
  refine g_iload (q0 := 27) (j := 4) rfl dX6_read_25 rfl ?_
  refine g_sipush (q0 := 30) rfl dX6_read_27 (k := ?_)
  refine g_icmp_ge (q0 := 33) (tgt := 95) rfl dX6_read_30 (by decide) (fun h30 => ?_) (fun h30 => ?_)
  · replace h := wI_neg (Int.not_lt.mpr h30) h
    refine g_aload_n (q0 := 96) (j := 1) rfl dX6_read_95 rfl ?_
    obtain ⟨g1, h⟩ := h
    refine g_getf (q0 := 99) (t := 0) (fi := 4) rfl rfl ff_X6_44 dX6_read_96 rfl g1.1 ?_
    exact g_ireturn dX6_read_99 rfl ⟨Nat.zero_le _, Nat.zero_le _⟩ h
  · replace h := wI_pos h30 h
    refine g_aload_n (q0 := 34) (j := 0) rfl dX6_read_33 rfl ?_
    refine g_aload_n (q0 := 35) (j := 1) rfl dX6_read_34 rfl ?_
    obtain ⟨P35, e35, h⟩ := h
    refine g_callVm (as := [_]) (rest := []) mt_X6_readLine mi_X6_readLine se_X6_readLine ml_X6_33 dX6_read_35 (q0 := 38) rfl rfl (sh_410 hOK) rfl rfl e35 rfl ⟨by decide, by decide⟩ (Nat.le_of_ble_eq_true rfl) ⟨Nat.zero_le _, Nat.zero_le _⟩ (fun r35 M35 hP35 hw35 hMw35 => ?_)
    obtain ⟨hr35, hOK2, h⟩ := h r35 M35 hP35
    subst hr35
    refine g_aload_n (q0 := 39) (j := 1) rfl dX6_read_38 rfl ?_
    obtain ⟨g3, h⟩ := h
    obtain ⟨v39, e39, h⟩ := h
    refine g_callVp (as := []) (rest := []) mt_X9_isAtEnd mi_X9_isAtEnd se_X9_isAtEnd ml_X6_37 dX6_read_39 (q0 := 42) rfl rfl g3.1 rfl rfl e39 rfl ⟨by decide, by decide⟩ (Nat.le_of_ble_eq_true rfl) ⟨Nat.zero_le _, Nat.zero_le _⟩ (fun _ => ?_)
    refine g_if_eq (q0 := 45) (tgt := 60) rfl dX6_read_42 (by decide) (fun h42 => ?_) (fun h42 => ?_)
    · replace h := wI_pos h42 h
      refine g_iconst (q0 := 61) rfl dX6_read_60 (k := ?_)
      exact h
    · replace h := wI_neg h42 h
      refine g_aload_n (q0 := 46) (j := 0) rfl dX6_read_45 rfl ?_
      refine g_getp (q0 := 49) (b := 411) rfl ff_X6_12 dX6_read_46 rfl hOK2 (by decide) (sh_410 hOK2) rfl (by decide) ?_
      refine g_getf (q0 := 52) (t := 0) (fi := 1) rfl rfl ff_X6_41 dX6_read_49 rfl (sh_411 hOK2) ?_
      refine g_iconst (q0 := 53) rfl dX6_read_52 (k := ?_)
      refine g_icmp_lt (q0 := 56) (tgt := 60) rfl dX6_read_53 (by decide) (fun h53 => ?_) (fun h53 => ?_)
      · replace h := wI_pos h53 h
        refine g_iconst (q0 := 61) rfl dX6_read_60 (k := ?_)
        exact h
      · replace h := wI_neg (Int.not_lt.mpr h53) h
        refine g_iconst (q0 := 57) rfl dX6_read_56 (k := ?_)
        refine g_goto (tgt := 61) dX6_read_57 (by decide) ?_
        exact h
theorem w_X6_read_61 {sh : gS} {Q : Option gV → gS → gM → Prop} {x1 x2 x3 x4 s0 : Int} {M : gM} (hOK : gOK sh M) (h : ((gsh sh x1 = some (0, 10) ∧ x1 < 758) ∧
    (if (M x1 4) = 0 then
      (if s0 = 0 then
        (∃ P78 : Option gV → gM → Prop, gC (gr 1 22) yX9_expect cX9_expect 2 (some (.boolean)) [(4, x1), (0, 59)] sh M (gPm sh P78) ∧ ∀ (r78 : Option gV) (M78 : gM), P78 r78 M78 → ∃ v78 : Int, r78 = some (0, v78) ∧ gOK sh M78 ∧
          (if v78 = 0 then
            (Q (some (0, (M78 x1 4))) sh M78)
          else
            (P_X6_read_25 sh Q x1 x2 x3 (gw32 (x4 + 1)) M78)))
      else
        (Q (some (0, (M x1 4))) sh M))
    else
      (Q (some (0, (M x1 4))) sh M)))) : P_X6_read_61 sh Q x1 x2 x3 x4 s0 M := by
  unfold P_X6_read_61
  refine g_istore (q0 := 63) (j := 5) (lv2 := [_, _, _, _, _, _]) rfl dX6_read_61 (by decide) rfl rfl ?_
  refine g_aload_n (q0 := 64) (j := 1) rfl dX6_read_63 rfl ?_
  obtain ⟨g4, h⟩ := h
  refine g_getf (q0 := 67) (t := 0) (fi := 4) rfl rfl ff_X6_44 dX6_read_64 rfl g4.1 ?_
  refine g_if_ne (q0 := 70) (tgt := 84) rfl dX6_read_67 (by decide) (fun h67 => ?_) (fun h67 => ?_)
  · replace h := wI_neg h67 h
    refine g_aload_n (q0 := 85) (j := 1) rfl dX6_read_84 rfl ?_
    refine g_getf (q0 := 88) (t := 0) (fi := 4) rfl rfl ff_X6_44 dX6_read_85 rfl g4.1 ?_
    exact g_ireturn dX6_read_88 rfl ⟨Nat.zero_le _, Nat.zero_le _⟩ h
  · replace h := wI_pos h67 h
    refine g_iload (q0 := 72) (j := 5) rfl dX6_read_70 rfl ?_
    refine g_if_ne (q0 := 75) (tgt := 84) rfl dX6_read_72 (by decide) (fun h72 => ?_) (fun h72 => ?_)
    · replace h := wI_neg h72 h
      refine g_aload_n (q0 := 85) (j := 1) rfl dX6_read_84 rfl ?_
      refine g_getf (q0 := 88) (t := 0) (fi := 4) rfl rfl ff_X6_44 dX6_read_85 rfl g4.1 ?_
      exact g_ireturn dX6_read_88 rfl ⟨Nat.zero_le _, Nat.zero_le _⟩ h
    · replace h := wI_pos h72 h
      refine g_aload_n (q0 := 76) (j := 1) rfl dX6_read_75 rfl ?_
      refine g_bipush (q0 := 78) rfl dX6_read_76 (k := ?_)
      obtain ⟨P78, e78, h⟩ := h
      refine g_callVm (as := [_]) (rest := []) mt_X9_expect mi_X9_expect se_X9_expect ml_X6_47 dX6_read_78 (q0 := 81) rfl rfl g4.1 rfl rfl e78 rfl ⟨by decide, by decide⟩ (Nat.le_of_ble_eq_true rfl) ⟨Nat.zero_le _, Nat.zero_le _⟩ (fun r78 M78 hP78 hw78 hMw78 => ?_)
      obtain ⟨v78, hr78, hOK5, h⟩ := h r78 M78 hP78
      subst hr78
      refine g_if_ne (q0 := 84) (tgt := 89) rfl dX6_read_81 (by decide) (fun h81 => ?_) (fun h81 => ?_)
      · replace h := wI_neg h81 h
        refine g_iincw (q0 := 92) (lv2 := [_, _, _, _, _, _]) rfl dX6_read_89 rfl (by decide) rfl rfl ?_
        refine g_goto (tgt := 25) dX6_read_92 (by decide) ?_
        refine gA_jk (lv1 := [_, _, _, _, _, (9, 0)]) ⟨.inl rfl, .inl rfl, .inl rfl, .inl rfl, .inl rfl, .inr rfl, trivial⟩ ?_
        exact h
      · replace h := wI_pos h81 h
        refine g_aload_n (q0 := 85) (j := 1) rfl dX6_read_84 rfl ?_
        refine g_getf (q0 := 88) (t := 0) (fi := 4) rfl rfl ff_X6_44 dX6_read_85 rfl g4.1 ?_
        exact g_ireturn dX6_read_88 rfl ⟨Nat.zero_le _, Nat.zero_le _⟩ h
theorem w_X6_read {sh : gS} {Q : Option gV → gS → gM → Prop} {a1 a2 a3 : Int} {M : gM} (hOK : gOK sh M) (h : ((gsh sh a1 = some (0, 10) ∧ a1 < 758) ∧
    (∃ P12 : Option gV → gM → Prop, gC (gr 1 21) yX9_begin cX9_begin 2 none [(4, a1), (0, a2)] sh (gU (gU M 410 1 a3) 410 3 0) (gPm sh P12) ∧ ∀ (r12 : Option gV) (M12 : gM), P12 r12 M12 → r12 = none ∧ gOK sh M12 ∧
      (∃ P19 : Option gV → gM → Prop, gC (gr 1 23) yX5_begin cX5_begin 1 none [(4, 411)] sh M12 (gPm sh P19) ∧ ∀ (r19 : Option gV) (M19 : gM), P19 r19 M19 → r19 = none ∧ gOK sh M19 ∧
        (P_X6_read_25 sh Q a1 a2 a3 0 M19))))) : gC (gr 9 195) yX6_read cX6_read 6 (some (.int)) [(4, 410), (4, a1), (0, a2), (0, a3)] sh M Q := by
  refine gC_ofA (lv := [_, _, _, _, _, _]) (by decide +kernel) (Nat.le_of_ble_eq_true rfl) rfl (fun hMw hav => ?_)
  refine g_aload_n (q0 := 1) (j := 0) rfl dX6_read_0 rfl ?_
  refine g_iload_n (q0 := 2) (j := 3) rfl dX6_read_1 rfl ?_
  refine g_put (q0 := 5) (t := 0) (fi := 1) rfl rfl ff_X6_18 dX6_read_2 rfl (sh_410 hOK) rfl (fun _ => ⟨rfl, rfl⟩) ?_
  have hOK6 : gOK sh (gU M 410 1 a3) := gOK_o hOK (sh_410 hOK) (f := 1) rfl rfl
  refine g_aload_n (q0 := 6) (j := 0) rfl dX6_read_5 rfl ?_
  refine g_iconst (q0 := 7) rfl dX6_read_6 (k := ?_)
  refine g_put (q0 := 10) (t := 0) (fi := 3) rfl rfl ff_X6_22 dX6_read_7 rfl (sh_410 hOK6) rfl (fun _ => ⟨rfl, rfl⟩) ?_
  have hOK7 : gOK sh (gU (gU M 410 1 a3) 410 3 0) := gOK_o hOK6 (sh_410 hOK6) (f := 3) rfl rfl
  refine g_aload_n (q0 := 11) (j := 1) rfl dX6_read_10 rfl ?_
  refine g_iload_n (q0 := 12) (j := 2) rfl dX6_read_11 rfl ?_
  obtain ⟨g8, h⟩ := h
  obtain ⟨P12, e12, h⟩ := h
  refine g_callVm (as := [_]) (rest := []) mt_X9_begin mi_X9_begin se_X9_begin ml_X6_25 dX6_read_12 (q0 := 15) rfl rfl g8.1 rfl rfl e12 rfl ⟨by decide, by decide⟩ (Nat.le_of_ble_eq_true rfl) ⟨Nat.zero_le _, Nat.zero_le _⟩ (fun r12 M12 hP12 hw12 hMw12 => ?_)
  obtain ⟨hr12, hOK9, h⟩ := h r12 M12 hP12
  subst hr12
  refine g_aload_n (q0 := 16) (j := 0) rfl dX6_read_15 rfl ?_
  refine g_getp (q0 := 19) (b := 411) rfl ff_X6_12 dX6_read_16 rfl hOK9 (by decide) (sh_410 hOK9) rfl (by decide) ?_
  obtain ⟨P19, e19, h⟩ := h
  refine g_callVm (as := []) (rest := []) mt_X5_begin mi_X5_begin se_X5_begin ml_X6_31 dX6_read_19 (q0 := 22) rfl rfl (sh_411 hOK9) rfl rfl e19 rfl ⟨by decide, by decide⟩ (Nat.le_of_ble_eq_true rfl) ⟨Nat.zero_le _, Nat.zero_le _⟩ (fun r19 M19 hP19 hw19 hMw19 => ?_)
  obtain ⟨hr19, hOK10, h⟩ := h r19 M19 hP19
  subst hr19
  refine g_iconst (q0 := 23) rfl dX6_read_22 (k := ?_)
  refine g_istore (q0 := 25) (j := 4) (lv2 := [_, _, _, _, _, _]) rfl dX6_read_23 (by decide) rfl rfl ?_
  exact h
-- ==== X6_readLine
theorem dX6_readLine_0 : decode cX6_readLine 0 = .ok (.aload_n 0, 1) := by decide +kernel
theorem dX6_readLine_1 : decode cX6_readLine 1 = .ok (.aload_n 1, 1) := by decide +kernel
theorem dX6_readLine_2 : decode cX6_readLine 2 = .ok (.getfield 51, 3) := by decide +kernel
theorem dX6_readLine_5 : decode cX6_readLine 5 = .ok (.putfield 54, 3) := by decide +kernel
theorem dX6_readLine_8 : decode cX6_readLine 8 = .ok (.aload_n 0, 1) := by decide +kernel
theorem dX6_readLine_9 : decode cX6_readLine 9 = .ok (.aload_n 1, 1) := by decide +kernel
theorem dX6_readLine_10 : decode cX6_readLine 10 = .ok (.invokevirtual 57, 3) := by decide +kernel
theorem dX6_readLine_13 : decode cX6_readLine 13 = .ok (.istore_n 2, 1) := by decide +kernel
theorem dX6_readLine_14 : decode cX6_readLine 14 = .ok (.aload_n 0, 1) := by decide +kernel
theorem dX6_readLine_15 : decode cX6_readLine 15 = .ok (.getfield 12, 3) := by decide +kernel
theorem dX6_readLine_18 : decode cX6_readLine 18 = .ok (.getfield 41, 3) := by decide +kernel
theorem dX6_readLine_21 : decode cX6_readLine 21 = .ok (.iconst 2, 1) := by decide +kernel
theorem dX6_readLine_22 : decode cX6_readLine 22 = .ok (.if_icmp .ge 22, 3) := by decide +kernel
theorem dX6_readLine_25 : decode cX6_readLine 25 = .ok (.iload_n 2, 1) := by decide +kernel
theorem dX6_readLine_26 : decode cX6_readLine 26 = .ok (.aload_n 0, 1) := by decide +kernel
theorem dX6_readLine_27 : decode cX6_readLine 27 = .ok (.getfield 12, 3) := by decide +kernel
theorem dX6_readLine_30 : decode cX6_readLine 30 = .ok (.getfield 41, 3) := by decide +kernel
theorem dX6_readLine_33 : decode cX6_readLine 33 = .ok (.if_icmp .ne 7, 3) := by decide +kernel
theorem dX6_readLine_36 : decode cX6_readLine 36 = .ok (.iconst 1, 1) := by decide +kernel
theorem dX6_readLine_37 : decode cX6_readLine 37 = .ok (.goto 23, 3) := by decide +kernel
theorem dX6_readLine_40 : decode cX6_readLine 40 = .ok (.iconst 0, 1) := by decide +kernel
theorem dX6_readLine_41 : decode cX6_readLine 41 = .ok (.goto 19, 3) := by decide +kernel
theorem dX6_readLine_44 : decode cX6_readLine 44 = .ok (.iload_n 2, 1) := by decide +kernel
theorem dX6_readLine_45 : decode cX6_readLine 45 = .ok (.iconst 1, 1) := by decide +kernel
theorem dX6_readLine_46 : decode cX6_readLine 46 = .ok (.if_icmp .le 13, 3) := by decide +kernel
theorem dX6_readLine_49 : decode cX6_readLine 49 = .ok (.iload_n 2, 1) := by decide +kernel
theorem dX6_readLine_50 : decode cX6_readLine 50 = .ok (.bipush 15, 2) := by decide +kernel
theorem dX6_readLine_52 : decode cX6_readLine 52 = .ok (.if_icmp .ge 7, 3) := by decide +kernel
theorem dX6_readLine_55 : decode cX6_readLine 55 = .ok (.iconst 1, 1) := by decide +kernel
theorem dX6_readLine_56 : decode cX6_readLine 56 = .ok (.goto 4, 3) := by decide +kernel
theorem dX6_readLine_59 : decode cX6_readLine 59 = .ok (.iconst 0, 1) := by decide +kernel
theorem dX6_readLine_60 : decode cX6_readLine 60 = .ok (.istore_n 3, 1) := by decide +kernel
theorem dX6_readLine_61 : decode cX6_readLine 61 = .ok (.iload_n 3, 1) := by decide +kernel
theorem dX6_readLine_62 : decode cX6_readLine 62 = .ok (.ifCond .ne 13, 3) := by decide +kernel
theorem dX6_readLine_65 : decode cX6_readLine 65 = .ok (.aload_n 1, 1) := by decide +kernel
theorem dX6_readLine_66 : decode cX6_readLine 66 = .ok (.iconst 1, 1) := by decide +kernel
theorem dX6_readLine_67 : decode cX6_readLine 67 = .ok (.aload_n 0, 1) := by decide +kernel
theorem dX6_readLine_68 : decode cX6_readLine 68 = .ok (.getfield 54, 3) := by decide +kernel
theorem dX6_readLine_71 : decode cX6_readLine 71 = .ok (.invokevirtual 61, 3) := by decide +kernel
theorem dX6_readLine_74 : decode cX6_readLine 74 = .ok (.return_, 1) := by decide +kernel
theorem dX6_readLine_75 : decode cX6_readLine 75 = .ok (.aload_n 0, 1) := by decide +kernel
theorem dX6_readLine_76 : decode cX6_readLine 76 = .ok (.iload_n 2, 1) := by decide +kernel
theorem dX6_readLine_77 : decode cX6_readLine 77 = .ok (.invokevirtual 65, 3) := by decide +kernel
theorem dX6_readLine_80 : decode cX6_readLine 80 = .ok (.ifCond .eq 24, 3) := by decide +kernel
theorem dX6_readLine_83 : decode cX6_readLine 83 = .ok (.aload_n 1, 1) := by decide +kernel
theorem dX6_readLine_84 : decode cX6_readLine 84 = .ok (.iload_n 2, 1) := by decide +kernel
theorem dX6_readLine_85 : decode cX6_readLine 85 = .ok (.bipush 8, 2) := by decide +kernel
theorem dX6_readLine_87 : decode cX6_readLine 87 = .ok (.if_icmp .ge 7, 3) := by decide +kernel
theorem dX6_readLine_90 : decode cX6_readLine 90 = .ok (.iconst 4, 1) := by decide +kernel
theorem dX6_readLine_91 : decode cX6_readLine 91 = .ok (.goto 5, 3) := by decide +kernel
theorem dX6_readLine_94 : decode cX6_readLine 94 = .ok (.bipush 6, 2) := by decide +kernel
theorem dX6_readLine_96 : decode cX6_readLine 96 = .ok (.aload_n 0, 1) := by decide +kernel
theorem dX6_readLine_97 : decode cX6_readLine 97 = .ok (.getfield 54, 3) := by decide +kernel
theorem dX6_readLine_100 : decode cX6_readLine 100 = .ok (.invokevirtual 61, 3) := by decide +kernel
theorem dX6_readLine_103 : decode cX6_readLine 103 = .ok (.return_, 1) := by decide +kernel
theorem dX6_readLine_104 : decode cX6_readLine 104 = .ok (.aload_n 1, 1) := by decide +kernel
theorem dX6_readLine_105 : decode cX6_readLine 105 = .ok (.bipush 58, 2) := by decide +kernel
theorem dX6_readLine_107 : decode cX6_readLine 107 = .ok (.invokevirtual 47, 3) := by decide +kernel
theorem dX6_readLine_110 : decode cX6_readLine 110 = .ok (.ifCond .ne 4, 3) := by decide +kernel
theorem dX6_readLine_113 : decode cX6_readLine 113 = .ok (.return_, 1) := by decide +kernel
theorem dX6_readLine_114 : decode cX6_readLine 114 = .ok (.aload_n 0, 1) := by decide +kernel
theorem dX6_readLine_115 : decode cX6_readLine 115 = .ok (.getfield 12, 3) := by decide +kernel
theorem dX6_readLine_118 : decode cX6_readLine 118 = .ok (.dup, 1) := by decide +kernel
theorem dX6_readLine_119 : decode cX6_readLine 119 = .ok (.getfield 41, 3) := by decide +kernel
theorem dX6_readLine_122 : decode cX6_readLine 122 = .ok (.iconst 1, 1) := by decide +kernel
theorem dX6_readLine_123 : decode cX6_readLine 123 = .ok (.iadd, 1) := by decide +kernel
theorem dX6_readLine_124 : decode cX6_readLine 124 = .ok (.putfield 41, 3) := by decide +kernel
theorem dX6_readLine_127 : decode cX6_readLine 127 = .ok (.iload_n 2, 1) := by decide +kernel
theorem dX6_readLine_128 : decode cX6_readLine 128 = .ok (.iconst 2, 1) := by decide +kernel
theorem dX6_readLine_129 : decode cX6_readLine 129 = .ok (.if_icmp .eq 8, 3) := by decide +kernel
theorem dX6_readLine_132 : decode cX6_readLine 132 = .ok (.iload_n 2, 1) := by decide +kernel
theorem dX6_readLine_133 : decode cX6_readLine 133 = .ok (.iconst 3, 1) := by decide +kernel
theorem dX6_readLine_134 : decode cX6_readLine 134 = .ok (.if_icmp .ne 24, 3) := by decide +kernel
theorem dX6_readLine_137 : decode cX6_readLine 137 = .ok (.aload_n 1, 1) := by decide +kernel
theorem dX6_readLine_138 : decode cX6_readLine 138 = .ok (.iconst 4, 1) := by decide +kernel
theorem dX6_readLine_139 : decode cX6_readLine 139 = .ok (.invokevirtual 68, 3) := by decide +kernel
theorem dX6_readLine_142 : decode cX6_readLine 142 = .ok (.istore 4, 2) := by decide +kernel
theorem dX6_readLine_144 : decode cX6_readLine 144 = .ok (.aload_n 0, 1) := by decide +kernel
theorem dX6_readLine_145 : decode cX6_readLine 145 = .ok (.iload_n 2, 1) := by decide +kernel
theorem dX6_readLine_146 : decode cX6_readLine 146 = .ok (.invokevirtual 72, 3) := by decide +kernel
theorem dX6_readLine_149 : decode cX6_readLine 149 = .ok (.iload 4, 2) := by decide +kernel
theorem dX6_readLine_151 : decode cX6_readLine 151 = .ok (.iconst 0, 1) := by decide +kernel
theorem dX6_readLine_152 : decode cX6_readLine 152 = .ok (.invokevirtual 76, 3) := by decide +kernel
theorem dX6_readLine_155 : decode cX6_readLine 155 = .ok (.goto 29, 3) := by decide +kernel
theorem dX6_readLine_158 : decode cX6_readLine 158 = .ok (.iload_n 2, 1) := by decide +kernel
theorem dX6_readLine_159 : decode cX6_readLine 159 = .ok (.iconst 4, 1) := by decide +kernel
theorem dX6_readLine_160 : decode cX6_readLine 160 = .ok (.if_icmp .lt 18, 3) := by decide +kernel
theorem dX6_readLine_163 : decode cX6_readLine 163 = .ok (.iload_n 2, 1) := by decide +kernel
theorem dX6_readLine_164 : decode cX6_readLine 164 = .ok (.bipush 8, 2) := by decide +kernel
theorem dX6_readLine_166 : decode cX6_readLine 166 = .ok (.if_icmp .gt 12, 3) := by decide +kernel
theorem dX6_readLine_169 : decode cX6_readLine 169 = .ok (.aload_n 0, 1) := by decide +kernel
theorem dX6_readLine_170 : decode cX6_readLine 170 = .ok (.aload_n 1, 1) := by decide +kernel
theorem dX6_readLine_171 : decode cX6_readLine 171 = .ok (.iload_n 2, 1) := by decide +kernel
theorem dX6_readLine_172 : decode cX6_readLine 172 = .ok (.invokevirtual 81, 3) := by decide +kernel
theorem dX6_readLine_175 : decode cX6_readLine 175 = .ok (.goto 9, 3) := by decide +kernel
theorem dX6_readLine_178 : decode cX6_readLine 178 = .ok (.aload_n 0, 1) := by decide +kernel
theorem dX6_readLine_179 : decode cX6_readLine 179 = .ok (.aload_n 1, 1) := by decide +kernel
theorem dX6_readLine_180 : decode cX6_readLine 180 = .ok (.iload_n 2, 1) := by decide +kernel
theorem dX6_readLine_181 : decode cX6_readLine 181 = .ok (.invokevirtual 85, 3) := by decide +kernel
theorem dX6_readLine_184 : decode cX6_readLine 184 = .ok (.return_, 1) := by decide +kernel
def P_X6_readLine_60 (sh : gS) (Q : Option gV → gS → gM → Prop) (x1 x2 s0 : Int) (M : gM) : Prop := gA (gr 8 171) yX6_readLine cX6_readLine 5 none Q (0, 0) 60 [(4, 410), (4, x1), (0, x2), (9, 0), (9, 0)] [(0, s0)] sh M
theorem w_X6_readLine_60 {sh : gS} {Q : Option gV → gS → gM → Prop} {x1 x2 s0 : Int} {M : gM} (hOK : gOK sh M) (h : (if s0 = 0 then
    ((gsh sh x1 = some (0, 10) ∧ x1 < 758) ∧
      (∃ P71 : Option gV → gM → Prop, gC (gr 0 0) yX9_fail cX9_fail 3 none [(4, x1), (0, 1), (0, (M 410 2))] sh M (gPm sh P71) ∧ ∀ (r71 : Option gV) (M71 : gM), P71 r71 M71 → r71 = none ∧ gOK sh M71 ∧
        (Q none sh M71)))
  else
    (∃ P77 : Option gV → gM → Prop, gC (gr 1 21) yX6_isTooMany cX6_isTooMany 3 (some (.boolean)) [(4, 410), (0, x2)] sh M (gPm sh P77) ∧ ∀ (r77 : Option gV) (M77 : gM), P77 r77 M77 → ∃ v77 : Int, r77 = some (0, v77) ∧ gOK sh M77 ∧
      (if v77 = 0 then
        ((gsh sh x1 = some (0, 10) ∧ x1 < 758) ∧
          (∃ P107 : Option gV → gM → Prop, gC (gr 1 22) yX9_expect cX9_expect 2 (some (.boolean)) [(4, x1), (0, 58)] sh M77 (gPm sh P107) ∧ ∀ (r107 : Option gV) (M107 : gM), P107 r107 M107 → ∃ v107 : Int, r107 = some (0, v107) ∧ gOK sh M107 ∧
            (if v107 = 0 then
              (Q none sh M107)
            else
              (if x2 = 2 then
                (∃ P139 : Option gV → gM → Prop, gC (gr 1 22) yX9_path cX9_path 4 (some (.int)) [(4, x1), (0, 4)] sh (gU M107 411 1 (gw32 ((M107 411 1) + (1 : Int)))) (gPm sh P139) ∧ ∀ (r139 : Option gV) (M139 : gM), P139 r139 M139 → ∃ v139 : Int, r139 = some (0, v139) ∧ gOK sh M139 ∧
                  (∃ v146 : Int, gC (gr 0 0) yX6_pairsOf cX6_pairsOf 2 (some (.object "CarriedHistory$Pairs")) [(4, 410), (0, x2)] sh M139 (gPp sh M139 (4, v146)) ∧
                    ((gsh sh v146 = some (0, 5) ∧ v146 < 758) ∧
                      (∃ P152 : Option gV → gM → Prop, gC (gr 0 0) yX4_add cX4_add 3 none [(4, v146), (0, v139), (0, 0)] sh M139 (gPm sh P152) ∧ ∀ (r152 : Option gV) (M152 : gM), P152 r152 M152 → r152 = none ∧ gOK sh M152 ∧
                        (Q none sh M152)))))
              else
                (if x2 = 3 then
                  (∃ P139 : Option gV → gM → Prop, gC (gr 1 22) yX9_path cX9_path 4 (some (.int)) [(4, x1), (0, 4)] sh (gU M107 411 1 (gw32 ((M107 411 1) + (1 : Int)))) (gPm sh P139) ∧ ∀ (r139 : Option gV) (M139 : gM), P139 r139 M139 → ∃ v139 : Int, r139 = some (0, v139) ∧ gOK sh M139 ∧
                    (∃ v146 : Int, gC (gr 0 0) yX6_pairsOf cX6_pairsOf 2 (some (.object "CarriedHistory$Pairs")) [(4, 410), (0, x2)] sh M139 (gPp sh M139 (4, v146)) ∧
                      ((gsh sh v146 = some (0, 5) ∧ v146 < 758) ∧
                        (∃ P152 : Option gV → gM → Prop, gC (gr 0 0) yX4_add cX4_add 3 none [(4, v146), (0, v139), (0, 0)] sh M139 (gPm sh P152) ∧ ∀ (r152 : Option gV) (M152 : gM), P152 r152 M152 → r152 = none ∧ gOK sh M152 ∧
                          (Q none sh M152)))))
                else
                  (if x2 < 4 then
                    (∃ P181 : Option gV → gM → Prop, gC (gr 3 67) yX6_readSetting cX6_readSetting 4 none [(4, 410), (4, x1), (0, x2)] sh (gU M107 411 1 (gw32 ((M107 411 1) + (1 : Int)))) (gPm sh P181) ∧ ∀ (r181 : Option gV) (M181 : gM), P181 r181 M181 → r181 = none ∧ gOK sh M181 ∧
                      (Q none sh M181))
                  else
                    (if (8 : Int) < x2 then
                      (∃ P181 : Option gV → gM → Prop, gC (gr 3 67) yX6_readSetting cX6_readSetting 4 none [(4, 410), (4, x1), (0, x2)] sh (gU M107 411 1 (gw32 ((M107 411 1) + (1 : Int)))) (gPm sh P181) ∧ ∀ (r181 : Option gV) (M181 : gM), P181 r181 M181 → r181 = none ∧ gOK sh M181 ∧
                        (Q none sh M181))
                    else
                      (∃ P172 : Option gV → gM → Prop, gC (gr 3 70) yX6_readPair cX6_readPair 5 none [(4, 410), (4, x1), (0, x2)] sh (gU M107 411 1 (gw32 ((M107 411 1) + (1 : Int)))) (gPm sh P172) ∧ ∀ (r172 : Option gV) (M172 : gM), P172 r172 M172 → r172 = none ∧ gOK sh M172 ∧
                        (Q none sh M172)))))))))
      else
        (if x2 < 8 then
          ((gsh sh x1 = some (0, 10) ∧ x1 < 758) ∧
            (∃ P100 : Option gV → gM → Prop, gC (gr 0 0) yX9_fail cX9_fail 3 none [(4, x1), (0, 4), (0, (M77 410 2))] sh M77 (gPm sh P100) ∧ ∀ (r100 : Option gV) (M100 : gM), P100 r100 M100 → r100 = none ∧ gOK sh M100 ∧
              (Q none sh M100)))
        else
          ((gsh sh x1 = some (0, 10) ∧ x1 < 758) ∧
            (∃ P100 : Option gV → gM → Prop, gC (gr 0 0) yX9_fail cX9_fail 3 none [(4, x1), (0, 6), (0, (M77 410 2))] sh M77 (gPm sh P100) ∧ ∀ (r100 : Option gV) (M100 : gM), P100 r100 M100 → r100 = none ∧ gOK sh M100 ∧
              (Q none sh M100)))))))) : P_X6_readLine_60 sh Q x1 x2 s0 M := by
  unfold P_X6_readLine_60
  refine g_istore_n (q0 := 61) (j := 3) (lv2 := [_, _, _, _, _]) rfl dX6_readLine_60 (by decide) rfl rfl ?_
  refine g_iload_n (q0 := 62) (j := 3) rfl dX6_readLine_61 rfl ?_
  refine g_if_ne (q0 := 65) (tgt := 75) rfl dX6_readLine_62 (by decide) (fun h62 => ?_) (fun h62 => ?_)
  · replace h := wI_neg h62 h
    refine g_aload_n (q0 := 76) (j := 0) rfl dX6_readLine_75 rfl ?_
    refine g_iload_n (q0 := 77) (j := 2) rfl dX6_readLine_76 rfl ?_
    obtain ⟨P77, e77, h⟩ := h
    refine g_callVm (as := [_]) (rest := []) mt_X6_isTooMany mi_X6_isTooMany se_X6_isTooMany ml_X6_65 dX6_readLine_77 (q0 := 80) rfl rfl (sh_410 hOK) rfl rfl e77 rfl ⟨by decide, by decide⟩ (Nat.le_of_ble_eq_true rfl) ⟨Nat.zero_le _, Nat.zero_le _⟩ (fun r77 M77 hP77 hw77 hMw77 => ?_)
    obtain ⟨v77, hr77, hOK1, h⟩ := h r77 M77 hP77
    subst hr77
    refine g_if_eq (q0 := 83) (tgt := 104) rfl dX6_readLine_80 (by decide) (fun h80 => ?_) (fun h80 => ?_)
    · replace h := wI_pos h80 h
      refine g_aload_n (q0 := 105) (j := 1) rfl dX6_readLine_104 rfl ?_
      refine g_bipush (q0 := 107) rfl dX6_readLine_105 (k := ?_)
      obtain ⟨g2, h⟩ := h
      obtain ⟨P107, e107, h⟩ := h
      refine g_callVm (as := [_]) (rest := []) mt_X9_expect mi_X9_expect se_X9_expect ml_X6_47 dX6_readLine_107 (q0 := 110) rfl rfl g2.1 rfl rfl e107 rfl ⟨by decide, by decide⟩ (Nat.le_of_ble_eq_true rfl) ⟨Nat.zero_le _, Nat.zero_le _⟩ (fun r107 M107 hP107 hw107 hMw107 => ?_)
      obtain ⟨v107, hr107, hOK3, h⟩ := h r107 M107 hP107
      subst hr107
      refine g_if_ne (q0 := 113) (tgt := 114) rfl dX6_readLine_110 (by decide) (fun h110 => ?_) (fun h110 => ?_)
      · replace h := wI_neg h110 h
        refine g_aload_n (q0 := 115) (j := 0) rfl dX6_readLine_114 rfl ?_
        refine g_getp (q0 := 118) (b := 411) rfl ff_X6_12 dX6_readLine_115 rfl hOK3 (by decide) (sh_410 hOK3) rfl (by decide) ?_
        refine g_dup (q0 := 119) rfl dX6_readLine_118 (k := ?_)
        refine g_getf (q0 := 122) (t := 0) (fi := 1) rfl rfl ff_X6_41 dX6_readLine_119 rfl (sh_411 hOK3) ?_
        refine g_iconst (q0 := 123) rfl dX6_readLine_122 (k := ?_)
        refine g_iaddw (q0 := 124) rfl dX6_readLine_123 ?_
        refine g_put (q0 := 127) (t := 0) (fi := 1) rfl rfl ff_X6_41 dX6_readLine_124 rfl (sh_411 hOK3) rfl (fun _ => ⟨rfl, rfl⟩) ?_
        have hOK4 : gOK sh (gU M107 411 1 (gw32 ((M107 411 1) + (1 : Int)))) := gOK_o hOK3 (sh_411 hOK3) (f := 1) rfl rfl
        refine g_iload_n (q0 := 128) (j := 2) rfl dX6_readLine_127 rfl ?_
        refine g_iconst (q0 := 129) rfl dX6_readLine_128 (k := ?_)
        refine g_icmp_eq (q0 := 132) (tgt := 137) rfl dX6_readLine_129 (by decide) (fun h129 => ?_) (fun h129 => ?_)
        · replace h := wI_pos h129 h
          refine g_aload_n (q0 := 138) (j := 1) rfl dX6_readLine_137 rfl ?_
          refine g_iconst (q0 := 139) rfl dX6_readLine_138 (k := ?_)
          obtain ⟨P139, e139, h⟩ := h
          refine g_callVm (as := [_]) (rest := []) mt_X9_path mi_X9_path se_X9_path ml_X6_68 dX6_readLine_139 (q0 := 142) rfl rfl g2.1 rfl rfl e139 rfl ⟨by decide, by decide⟩ (Nat.le_of_ble_eq_true rfl) ⟨Nat.zero_le _, Nat.zero_le _⟩ (fun r139 M139 hP139 hw139 hMw139 => ?_)
          obtain ⟨v139, hr139, hOK5, h⟩ := h r139 M139 hP139
          subst hr139
          refine g_istore (q0 := 144) (j := 4) (lv2 := [_, _, _, _, _]) rfl dX6_readLine_142 (by decide) rfl rfl ?_
          refine g_aload_n (q0 := 145) (j := 0) rfl dX6_readLine_144 rfl ?_
          refine g_iload_n (q0 := 146) (j := 2) rfl dX6_readLine_145 rfl ?_
          obtain ⟨v146, e146, h⟩ := h
          refine g_callVp (as := [_]) (rest := []) mt_X6_pairsOf mi_X6_pairsOf se_X6_pairsOf ml_X6_72 dX6_readLine_146 (q0 := 149) rfl rfl (sh_410 hOK5) rfl rfl e146 rfl ⟨by decide, by decide⟩ (Nat.le_of_ble_eq_true rfl) ⟨Nat.zero_le _, Nat.zero_le _⟩ (fun _ => ?_)
          refine g_iload (q0 := 151) (j := 4) rfl dX6_readLine_149 rfl ?_
          refine g_iconst (q0 := 152) rfl dX6_readLine_151 (k := ?_)
          obtain ⟨g6, h⟩ := h
          obtain ⟨P152, e152, h⟩ := h
          refine g_callVm (as := [_, _]) (rest := []) mt_X4_add mi_X4_add se_X4_add ml_X6_76 dX6_readLine_152 (q0 := 155) rfl rfl g6.1 rfl rfl e152 rfl ⟨by decide, by decide⟩ (Nat.le_of_ble_eq_true rfl) ⟨Nat.zero_le _, Nat.zero_le _⟩ (fun r152 M152 hP152 hw152 hMw152 => ?_)
          obtain ⟨hr152, hOK7, h⟩ := h r152 M152 hP152
          subst hr152
          refine g_goto (tgt := 184) dX6_readLine_155 (by decide) ?_
          exact g_return dX6_readLine_184 rfl ⟨Nat.zero_le _, Nat.zero_le _⟩ h
        · replace h := wI_neg h129 h
          refine g_iload_n (q0 := 133) (j := 2) rfl dX6_readLine_132 rfl ?_
          refine g_iconst (q0 := 134) rfl dX6_readLine_133 (k := ?_)
          refine g_icmp_ne (q0 := 137) (tgt := 158) rfl dX6_readLine_134 (by decide) (fun h134 => ?_) (fun h134 => ?_)
          · replace h := wI_neg h134 h
            refine g_iload_n (q0 := 159) (j := 2) rfl dX6_readLine_158 rfl ?_
            refine g_iconst (q0 := 160) rfl dX6_readLine_159 (k := ?_)
            refine g_icmp_lt (q0 := 163) (tgt := 178) rfl dX6_readLine_160 (by decide) (fun h160 => ?_) (fun h160 => ?_)
            · replace h := wI_pos h160 h
              refine g_aload_n (q0 := 179) (j := 0) rfl dX6_readLine_178 rfl ?_
              refine g_aload_n (q0 := 180) (j := 1) rfl dX6_readLine_179 rfl ?_
              refine g_iload_n (q0 := 181) (j := 2) rfl dX6_readLine_180 rfl ?_
              obtain ⟨P181, e181, h⟩ := h
              refine g_callVm (as := [_, _]) (rest := []) mt_X6_readSetting mi_X6_readSetting se_X6_readSetting ml_X6_85 dX6_readLine_181 (q0 := 184) rfl rfl (sh_410 hOK4) rfl rfl e181 rfl ⟨by decide, by decide⟩ (Nat.le_of_ble_eq_true rfl) ⟨Nat.zero_le _, Nat.zero_le _⟩ (fun r181 M181 hP181 hw181 hMw181 => ?_)
              obtain ⟨hr181, hOK8, h⟩ := h r181 M181 hP181
              subst hr181
              exact g_return dX6_readLine_184 rfl ⟨Nat.zero_le _, Nat.zero_le _⟩ h
            · replace h := wI_neg (Int.not_lt.mpr h160) h
              refine g_iload_n (q0 := 164) (j := 2) rfl dX6_readLine_163 rfl ?_
              refine g_bipush (q0 := 166) rfl dX6_readLine_164 (k := ?_)
              refine g_icmp_gt (q0 := 169) (tgt := 178) rfl dX6_readLine_166 (by decide) (fun h166 => ?_) (fun h166 => ?_)
              · replace h := wI_pos h166 h
                refine g_aload_n (q0 := 179) (j := 0) rfl dX6_readLine_178 rfl ?_
                refine g_aload_n (q0 := 180) (j := 1) rfl dX6_readLine_179 rfl ?_
                refine g_iload_n (q0 := 181) (j := 2) rfl dX6_readLine_180 rfl ?_
                obtain ⟨P181, e181, h⟩ := h
                refine g_callVm (as := [_, _]) (rest := []) mt_X6_readSetting mi_X6_readSetting se_X6_readSetting ml_X6_85 dX6_readLine_181 (q0 := 184) rfl rfl (sh_410 hOK4) rfl rfl e181 rfl ⟨by decide, by decide⟩ (Nat.le_of_ble_eq_true rfl) ⟨Nat.zero_le _, Nat.zero_le _⟩ (fun r181 M181 hP181 hw181 hMw181 => ?_)
                obtain ⟨hr181, hOK9, h⟩ := h r181 M181 hP181
                subst hr181
                exact g_return dX6_readLine_184 rfl ⟨Nat.zero_le _, Nat.zero_le _⟩ h
              · replace h := wI_neg (Int.not_lt.mpr h166) h
                refine g_aload_n (q0 := 170) (j := 0) rfl dX6_readLine_169 rfl ?_
                refine g_aload_n (q0 := 171) (j := 1) rfl dX6_readLine_170 rfl ?_
                refine g_iload_n (q0 := 172) (j := 2) rfl dX6_readLine_171 rfl ?_
                obtain ⟨P172, e172, h⟩ := h
                refine g_callVm (as := [_, _]) (rest := []) mt_X6_readPair mi_X6_readPair se_X6_readPair ml_X6_81 dX6_readLine_172 (q0 := 175) rfl rfl (sh_410 hOK4) rfl rfl e172 rfl ⟨by decide, by decide⟩ (Nat.le_of_ble_eq_true rfl) ⟨Nat.zero_le _, Nat.zero_le _⟩ (fun r172 M172 hP172 hw172 hMw172 => ?_)
                obtain ⟨hr172, hOK10, h⟩ := h r172 M172 hP172
                subst hr172
                refine g_goto (tgt := 184) dX6_readLine_175 (by decide) ?_
                exact g_return dX6_readLine_184 rfl ⟨Nat.zero_le _, Nat.zero_le _⟩ h
          · replace h := wI_pos h134 h
            refine g_aload_n (q0 := 138) (j := 1) rfl dX6_readLine_137 rfl ?_
            refine g_iconst (q0 := 139) rfl dX6_readLine_138 (k := ?_)
            obtain ⟨P139, e139, h⟩ := h
            refine g_callVm (as := [_]) (rest := []) mt_X9_path mi_X9_path se_X9_path ml_X6_68 dX6_readLine_139 (q0 := 142) rfl rfl g2.1 rfl rfl e139 rfl ⟨by decide, by decide⟩ (Nat.le_of_ble_eq_true rfl) ⟨Nat.zero_le _, Nat.zero_le _⟩ (fun r139 M139 hP139 hw139 hMw139 => ?_)
            obtain ⟨v139, hr139, hOK11, h⟩ := h r139 M139 hP139
            subst hr139
            refine g_istore (q0 := 144) (j := 4) (lv2 := [_, _, _, _, _]) rfl dX6_readLine_142 (by decide) rfl rfl ?_
            refine g_aload_n (q0 := 145) (j := 0) rfl dX6_readLine_144 rfl ?_
            refine g_iload_n (q0 := 146) (j := 2) rfl dX6_readLine_145 rfl ?_
            obtain ⟨v146, e146, h⟩ := h
            refine g_callVp (as := [_]) (rest := []) mt_X6_pairsOf mi_X6_pairsOf se_X6_pairsOf ml_X6_72 dX6_readLine_146 (q0 := 149) rfl rfl (sh_410 hOK11) rfl rfl e146 rfl ⟨by decide, by decide⟩ (Nat.le_of_ble_eq_true rfl) ⟨Nat.zero_le _, Nat.zero_le _⟩ (fun _ => ?_)
            refine g_iload (q0 := 151) (j := 4) rfl dX6_readLine_149 rfl ?_
            refine g_iconst (q0 := 152) rfl dX6_readLine_151 (k := ?_)
            obtain ⟨g12, h⟩ := h
            obtain ⟨P152, e152, h⟩ := h
            refine g_callVm (as := [_, _]) (rest := []) mt_X4_add mi_X4_add se_X4_add ml_X6_76 dX6_readLine_152 (q0 := 155) rfl rfl g12.1 rfl rfl e152 rfl ⟨by decide, by decide⟩ (Nat.le_of_ble_eq_true rfl) ⟨Nat.zero_le _, Nat.zero_le _⟩ (fun r152 M152 hP152 hw152 hMw152 => ?_)
            obtain ⟨hr152, hOK13, h⟩ := h r152 M152 hP152
            subst hr152
            refine g_goto (tgt := 184) dX6_readLine_155 (by decide) ?_
            exact g_return dX6_readLine_184 rfl ⟨Nat.zero_le _, Nat.zero_le _⟩ h
      · replace h := wI_pos h110 h
        exact g_return dX6_readLine_113 rfl ⟨Nat.zero_le _, Nat.zero_le _⟩ h
    · replace h := wI_neg h80 h
      refine g_aload_n (q0 := 84) (j := 1) rfl dX6_readLine_83 rfl ?_
      refine g_iload_n (q0 := 85) (j := 2) rfl dX6_readLine_84 rfl ?_
      refine g_bipush (q0 := 87) rfl dX6_readLine_85 (k := ?_)
      refine g_icmp_ge (q0 := 90) (tgt := 94) rfl dX6_readLine_87 (by decide) (fun h87 => ?_) (fun h87 => ?_)
      · replace h := wI_neg (Int.not_lt.mpr h87) h
        refine g_bipush (q0 := 96) rfl dX6_readLine_94 (k := ?_)
        refine g_aload_n (q0 := 97) (j := 0) rfl dX6_readLine_96 rfl ?_
        refine g_getf (q0 := 100) (t := 0) (fi := 2) rfl rfl ff_X6_54 dX6_readLine_97 rfl (sh_410 hOK1) ?_
        obtain ⟨g14, h⟩ := h
        obtain ⟨P100, e100, h⟩ := h
        refine g_callVm (as := [_, _]) (rest := []) mt_X9_fail mi_X9_fail se_X9_fail ml_X6_61 dX6_readLine_100 (q0 := 103) rfl rfl g14.1 rfl rfl e100 rfl ⟨by decide, by decide⟩ (Nat.le_of_ble_eq_true rfl) ⟨Nat.zero_le _, Nat.zero_le _⟩ (fun r100 M100 hP100 hw100 hMw100 => ?_)
        obtain ⟨hr100, hOK15, h⟩ := h r100 M100 hP100
        subst hr100
        exact g_return dX6_readLine_103 rfl ⟨Nat.zero_le _, Nat.zero_le _⟩ h
      · replace h := wI_pos h87 h
        refine g_iconst (q0 := 91) rfl dX6_readLine_90 (k := ?_)
        refine g_goto (tgt := 96) dX6_readLine_91 (by decide) ?_
        refine g_aload_n (q0 := 97) (j := 0) rfl dX6_readLine_96 rfl ?_
        refine g_getf (q0 := 100) (t := 0) (fi := 2) rfl rfl ff_X6_54 dX6_readLine_97 rfl (sh_410 hOK1) ?_
        obtain ⟨g16, h⟩ := h
        obtain ⟨P100, e100, h⟩ := h
        refine g_callVm (as := [_, _]) (rest := []) mt_X9_fail mi_X9_fail se_X9_fail ml_X6_61 dX6_readLine_100 (q0 := 103) rfl rfl g16.1 rfl rfl e100 rfl ⟨by decide, by decide⟩ (Nat.le_of_ble_eq_true rfl) ⟨Nat.zero_le _, Nat.zero_le _⟩ (fun r100 M100 hP100 hw100 hMw100 => ?_)
        obtain ⟨hr100, hOK17, h⟩ := h r100 M100 hP100
        subst hr100
        exact g_return dX6_readLine_103 rfl ⟨Nat.zero_le _, Nat.zero_le _⟩ h
  · replace h := wI_pos h62 h
    refine g_aload_n (q0 := 66) (j := 1) rfl dX6_readLine_65 rfl ?_
    refine g_iconst (q0 := 67) rfl dX6_readLine_66 (k := ?_)
    refine g_aload_n (q0 := 68) (j := 0) rfl dX6_readLine_67 rfl ?_
    refine g_getf (q0 := 71) (t := 0) (fi := 2) rfl rfl ff_X6_54 dX6_readLine_68 rfl (sh_410 hOK) ?_
    obtain ⟨g18, h⟩ := h
    obtain ⟨P71, e71, h⟩ := h
    refine g_callVm (as := [_, _]) (rest := []) mt_X9_fail mi_X9_fail se_X9_fail ml_X6_61 dX6_readLine_71 (q0 := 74) rfl rfl g18.1 rfl rfl e71 rfl ⟨by decide, by decide⟩ (Nat.le_of_ble_eq_true rfl) ⟨Nat.zero_le _, Nat.zero_le _⟩ (fun r71 M71 hP71 hw71 hMw71 => ?_)
    obtain ⟨hr71, hOK19, h⟩ := h r71 M71 hP71
    subst hr71
    exact g_return dX6_readLine_74 rfl ⟨Nat.zero_le _, Nat.zero_le _⟩ h
theorem w_X6_readLine {sh : gS} {Q : Option gV → gS → gM → Prop} {a1 : Int} {M : gM} (hOK : gOK sh M) (h : ((gsh sh a1 = some (0, 10) ∧ a1 < 758) ∧
    (∃ P10 : Option gV → gM → Prop, gC (gr 7 149) yX6_readWord cX6_readWord 3 (some (.int)) [(4, 410), (4, a1)] sh (gU M 410 2 (M a1 2)) (gPm sh P10) ∧ ∀ (r10 : Option gV) (M10 : gM), P10 r10 M10 → ∃ v10 : Int, r10 = some (0, v10) ∧ gOK sh M10 ∧
      (if (M10 411 1) < 2 then
        (if v10 = (M10 411 1) then
          (P_X6_readLine_60 sh Q a1 v10 1 M10)
        else
          (P_X6_readLine_60 sh Q a1 v10 0 M10))
      else
        (if (1 : Int) < v10 then
          (if v10 < 15 then
            (P_X6_readLine_60 sh Q a1 v10 1 M10)
          else
            (P_X6_readLine_60 sh Q a1 v10 0 M10))
        else
          (P_X6_readLine_60 sh Q a1 v10 0 M10)))))) : gC (gr 8 171) yX6_readLine cX6_readLine 5 none [(4, 410), (4, a1)] sh M Q := by
  refine gC_ofA (lv := [_, _, _, _, _]) (by decide +kernel) (Nat.le_of_ble_eq_true rfl) rfl (fun hMw hav => ?_)
  refine g_aload_n (q0 := 1) (j := 0) rfl dX6_readLine_0 rfl ?_
  refine g_aload_n (q0 := 2) (j := 1) rfl dX6_readLine_1 rfl ?_
  obtain ⟨g20, h⟩ := h
  refine g_getf (q0 := 5) (t := 0) (fi := 2) rfl rfl ff_X6_51 dX6_readLine_2 rfl g20.1 ?_
  refine g_put (q0 := 8) (t := 0) (fi := 2) rfl rfl ff_X6_54 dX6_readLine_5 rfl (sh_410 hOK) rfl (fun _ => ⟨rfl, rfl⟩) ?_
  have hOK21 : gOK sh (gU M 410 2 (M a1 2)) := gOK_o hOK (sh_410 hOK) (f := 2) rfl rfl
  refine g_aload_n (q0 := 9) (j := 0) rfl dX6_readLine_8 rfl ?_
  refine g_aload_n (q0 := 10) (j := 1) rfl dX6_readLine_9 rfl ?_
  obtain ⟨P10, e10, h⟩ := h
  refine g_callVm (as := [_]) (rest := []) mt_X6_readWord mi_X6_readWord se_X6_readWord ml_X6_57 dX6_readLine_10 (q0 := 13) rfl rfl (sh_410 hOK21) rfl rfl e10 rfl ⟨by decide, by decide⟩ (Nat.le_of_ble_eq_true rfl) ⟨Nat.zero_le _, Nat.zero_le _⟩ (fun r10 M10 hP10 hw10 hMw10 => ?_)
  obtain ⟨v10, hr10, hOK22, h⟩ := h r10 M10 hP10
  subst hr10
  refine g_istore_n (q0 := 14) (j := 2) (lv2 := [_, _, _, _, _]) rfl dX6_readLine_13 (by decide) rfl rfl ?_
  refine g_aload_n (q0 := 15) (j := 0) rfl dX6_readLine_14 rfl ?_
  refine g_getp (q0 := 18) (b := 411) rfl ff_X6_12 dX6_readLine_15 rfl hOK22 (by decide) (sh_410 hOK22) rfl (by decide) ?_
  refine g_getf (q0 := 21) (t := 0) (fi := 1) rfl rfl ff_X6_41 dX6_readLine_18 rfl (sh_411 hOK22) ?_
  refine g_iconst (q0 := 22) rfl dX6_readLine_21 (k := ?_)
  refine g_icmp_ge (q0 := 25) (tgt := 44) rfl dX6_readLine_22 (by decide) (fun h22 => ?_) (fun h22 => ?_)
  · replace h := wI_neg (Int.not_lt.mpr h22) h
    refine g_iload_n (q0 := 45) (j := 2) rfl dX6_readLine_44 rfl ?_
    refine g_iconst (q0 := 46) rfl dX6_readLine_45 (k := ?_)
    refine g_icmp_le (q0 := 49) (tgt := 59) rfl dX6_readLine_46 (by decide) (fun h46 => ?_) (fun h46 => ?_)
    · replace h := wI_neg (Int.not_lt.mpr h46) h
      refine g_iconst (q0 := 60) rfl dX6_readLine_59 (k := ?_)
      exact h
    · replace h := wI_pos h46 h
      refine g_iload_n (q0 := 50) (j := 2) rfl dX6_readLine_49 rfl ?_
      refine g_bipush (q0 := 52) rfl dX6_readLine_50 (k := ?_)
      refine g_icmp_ge (q0 := 55) (tgt := 59) rfl dX6_readLine_52 (by decide) (fun h52 => ?_) (fun h52 => ?_)
      · replace h := wI_neg (Int.not_lt.mpr h52) h
        refine g_iconst (q0 := 60) rfl dX6_readLine_59 (k := ?_)
        exact h
      · replace h := wI_pos h52 h
        refine g_iconst (q0 := 56) rfl dX6_readLine_55 (k := ?_)
        refine g_goto (tgt := 60) dX6_readLine_56 (by decide) ?_
        exact h
  · replace h := wI_pos h22 h
    refine g_iload_n (q0 := 26) (j := 2) rfl dX6_readLine_25 rfl ?_
    refine g_aload_n (q0 := 27) (j := 0) rfl dX6_readLine_26 rfl ?_
    refine g_getp (q0 := 30) (b := 411) rfl ff_X6_12 dX6_readLine_27 rfl hOK22 (by decide) (sh_410 hOK22) rfl (by decide) ?_
    refine g_getf (q0 := 33) (t := 0) (fi := 1) rfl rfl ff_X6_41 dX6_readLine_30 rfl (sh_411 hOK22) ?_
    refine g_icmp_ne (q0 := 36) (tgt := 40) rfl dX6_readLine_33 (by decide) (fun h33 => ?_) (fun h33 => ?_)
    · replace h := wI_neg h33 h
      refine g_iconst (q0 := 41) rfl dX6_readLine_40 (k := ?_)
      refine g_goto (tgt := 60) dX6_readLine_41 (by decide) ?_
      exact h
    · replace h := wI_pos h33 h
      refine g_iconst (q0 := 37) rfl dX6_readLine_36 (k := ?_)
      refine g_goto (tgt := 60) dX6_readLine_37 (by decide) ?_
      exact h
-- ==== X6_readWord
theorem dX6_readWord_0 : decode cX6_readWord 0 = .ok (.iconst 0, 1) := by decide +kernel
theorem dX6_readWord_1 : decode cX6_readWord 1 = .ok (.istore_n 2, 1) := by decide +kernel
theorem dX6_readWord_2 : decode cX6_readWord 2 = .ok (.iload_n 2, 1) := by decide +kernel
theorem dX6_readWord_3 : decode cX6_readWord 3 = .ok (.sipush 240, 3) := by decide +kernel
theorem dX6_readWord_6 : decode cX6_readWord 6 = .ok (.if_icmp .ge 26, 3) := by decide +kernel
theorem dX6_readWord_9 : decode cX6_readWord 9 = .ok (.aload_n 1, 1) := by decide +kernel
theorem dX6_readWord_10 : decode cX6_readWord 10 = .ok (.invokevirtual 88, 3) := by decide +kernel
theorem dX6_readWord_13 : decode cX6_readWord 13 = .ok (.ifCond .eq 19, 3) := by decide +kernel
theorem dX6_readWord_16 : decode cX6_readWord 16 = .ok (.aload_n 1, 1) := by decide +kernel
theorem dX6_readWord_17 : decode cX6_readWord 17 = .ok (.dup, 1) := by decide +kernel
theorem dX6_readWord_18 : decode cX6_readWord 18 = .ok (.getfield 51, 3) := by decide +kernel
theorem dX6_readWord_21 : decode cX6_readWord 21 = .ok (.iconst 1, 1) := by decide +kernel
theorem dX6_readWord_22 : decode cX6_readWord 22 = .ok (.iadd, 1) := by decide +kernel
theorem dX6_readWord_23 : decode cX6_readWord 23 = .ok (.putfield 51, 3) := by decide +kernel
theorem dX6_readWord_26 : decode cX6_readWord 26 = .ok (.iinc 2 1, 3) := by decide +kernel
theorem dX6_readWord_29 : decode cX6_readWord 29 = .ok (.goto (-27), 3) := by decide +kernel
theorem dX6_readWord_32 : decode cX6_readWord 32 = .ok (.iconst 0, 1) := by decide +kernel
theorem dX6_readWord_33 : decode cX6_readWord 33 = .ok (.istore_n 2, 1) := by decide +kernel
theorem dX6_readWord_34 : decode cX6_readWord 34 = .ok (.iload_n 2, 1) := by decide +kernel
theorem dX6_readWord_35 : decode cX6_readWord 35 = .ok (.bipush 15, 2) := by decide +kernel
theorem dX6_readWord_37 : decode cX6_readWord 37 = .ok (.if_icmp .ge 23, 3) := by decide +kernel
theorem dX6_readWord_40 : decode cX6_readWord 40 = .ok (.aload_n 0, 1) := by decide +kernel
theorem dX6_readWord_41 : decode cX6_readWord 41 = .ok (.aload_n 1, 1) := by decide +kernel
theorem dX6_readWord_42 : decode cX6_readWord 42 = .ok (.iload_n 2, 1) := by decide +kernel
theorem dX6_readWord_43 : decode cX6_readWord 43 = .ok (.invokestatic 91, 3) := by decide +kernel
theorem dX6_readWord_46 : decode cX6_readWord 46 = .ok (.invokevirtual 95, 3) := by decide +kernel
theorem dX6_readWord_49 : decode cX6_readWord 49 = .ok (.ifCond .eq 5, 3) := by decide +kernel
theorem dX6_readWord_52 : decode cX6_readWord 52 = .ok (.iload_n 2, 1) := by decide +kernel
theorem dX6_readWord_53 : decode cX6_readWord 53 = .ok (.ireturn, 1) := by decide +kernel
theorem dX6_readWord_54 : decode cX6_readWord 54 = .ok (.iinc 2 1, 3) := by decide +kernel
theorem dX6_readWord_57 : decode cX6_readWord 57 = .ok (.goto (-23), 3) := by decide +kernel
theorem dX6_readWord_60 : decode cX6_readWord 60 = .ok (.bipush 15, 2) := by decide +kernel
theorem dX6_readWord_62 : decode cX6_readWord 62 = .ok (.ireturn, 1) := by decide +kernel
def P_X6_readWord_2 (sh : gS) (Q : Option gV → gS → gM → Prop) (x1 x2 : Int) (M : gM) : Prop := gA (gr 7 149) yX6_readWord cX6_readWord 3 (some (.int)) Q (0, 0) 2 [(4, 410), (4, x1), (0, x2)] [] sh M
def P_X6_readWord_34 (sh : gS) (Q : Option gV → gS → gM → Prop) (x1 x2 : Int) (M : gM) : Prop := gA (gr 7 149) yX6_readWord cX6_readWord 3 (some (.int)) Q (0, 0) 34 [(4, 410), (4, x1), (0, x2)] [] sh M
theorem w_X6_readWord_2 {sh : gS} {Q : Option gV → gS → gM → Prop} {x1 x2 : Int} {M : gM} (hOK : gOK sh M) (h : (if x2 < 240 then
    ((gsh sh x1 = some (0, 10) ∧ x1 < 758) ∧
      (∃ v10 : Int, gC (gr 0 0) yX9_isLetter cX9_isLetter 1 (some (.boolean)) [(4, x1)] sh M (gPp sh M (0, v10)) ∧
        (if v10 = 0 then
          (P_X6_readWord_34 sh Q x1 0 M)
        else
          (P_X6_readWord_2 sh Q x1 (gw32 (x2 + 1)) (gU M x1 2 (gw32 ((M x1 2) + (1 : Int))))))))
  else
    (P_X6_readWord_34 sh Q x1 0 M))) : P_X6_readWord_2 sh Q x1 x2 M := by
  unfold P_X6_readWord_2
  refine g_iload_n (q0 := 3) (j := 2) rfl dX6_readWord_2 rfl ?_
  refine g_sipush (q0 := 6) rfl dX6_readWord_3 (k := ?_)
  refine g_icmp_ge (q0 := 9) (tgt := 32) rfl dX6_readWord_6 (by decide) (fun h6 => ?_) (fun h6 => ?_)
  · replace h := wI_neg (Int.not_lt.mpr h6) h
    refine g_iconst (q0 := 33) rfl dX6_readWord_32 (k := ?_)
    refine g_istore_n (q0 := 34) (j := 2) (lv2 := [_, _, _]) rfl dX6_readWord_33 (by decide) rfl rfl ?_
    exact h
  · replace h := wI_pos h6 h
    refine g_aload_n (q0 := 10) (j := 1) rfl dX6_readWord_9 rfl ?_
    obtain ⟨g1, h⟩ := h
    obtain ⟨v10, e10, h⟩ := h
    refine g_callVp (as := []) (rest := []) mt_X9_isLetter mi_X9_isLetter se_X9_isLetter ml_X6_88 dX6_readWord_10 (q0 := 13) rfl rfl g1.1 rfl rfl e10 rfl ⟨by decide, by decide⟩ (Nat.le_of_ble_eq_true rfl) ⟨Nat.zero_le _, Nat.zero_le _⟩ (fun _ => ?_)
    refine g_if_eq (q0 := 16) (tgt := 32) rfl dX6_readWord_13 (by decide) (fun h13 => ?_) (fun h13 => ?_)
    · replace h := wI_pos h13 h
      refine g_iconst (q0 := 33) rfl dX6_readWord_32 (k := ?_)
      refine g_istore_n (q0 := 34) (j := 2) (lv2 := [_, _, _]) rfl dX6_readWord_33 (by decide) rfl rfl ?_
      exact h
    · replace h := wI_neg h13 h
      refine g_aload_n (q0 := 17) (j := 1) rfl dX6_readWord_16 rfl ?_
      refine g_dup (q0 := 18) rfl dX6_readWord_17 (k := ?_)
      refine g_getf (q0 := 21) (t := 0) (fi := 2) rfl rfl ff_X6_51 dX6_readWord_18 rfl g1.1 ?_
      refine g_iconst (q0 := 22) rfl dX6_readWord_21 (k := ?_)
      refine g_iaddw (q0 := 23) rfl dX6_readWord_22 ?_
      refine g_put (q0 := 26) (t := 0) (fi := 2) rfl rfl ff_X6_51 dX6_readWord_23 rfl g1.1 rfl (fun _ => ⟨rfl, rfl⟩) ?_
      have hOK2 : gOK sh (gU M x1 2 (gw32 ((M x1 2) + (1 : Int)))) := gOK_o hOK g1.1 (f := 2) rfl rfl
      refine g_iincw (q0 := 29) (lv2 := [_, _, _]) rfl dX6_readWord_26 rfl (by decide) rfl rfl ?_
      refine g_goto (tgt := 2) dX6_readWord_29 (by decide) ?_
      exact h
theorem w_X6_readWord_34 {sh : gS} {Q : Option gV → gS → gM → Prop} {x1 x2 : Int} {M : gM} (hOK : gOK sh M) (h : (if x2 < 15 then
    (∃ v43 : Int, gC (gr 0 0) yX6_spelling cX6_spelling 1 (some (.object "java/lang/String")) [(0, x2)] sh M (gPp sh M (5, v43)) ∧
      (∃ v46 : Int, gC (gr 6 126) yX6_isSpelt cX6_isSpelt 4 (some (.boolean)) [(4, 410), (4, x1), (5, v43)] sh M (gPp sh M (0, v46)) ∧
        (if v46 = 0 then
          (P_X6_readWord_34 sh Q x1 (gw32 (x2 + 1)) M)
        else
          (Q (some (0, x2)) sh M))))
  else
    (Q (some (0, 15)) sh M))) : P_X6_readWord_34 sh Q x1 x2 M := by
  unfold P_X6_readWord_34
  refine g_iload_n (q0 := 35) (j := 2) rfl dX6_readWord_34 rfl ?_
  refine g_bipush (q0 := 37) rfl dX6_readWord_35 (k := ?_)
  refine g_icmp_ge (q0 := 40) (tgt := 60) rfl dX6_readWord_37 (by decide) (fun h37 => ?_) (fun h37 => ?_)
  · replace h := wI_neg (Int.not_lt.mpr h37) h
    refine g_bipush (q0 := 62) rfl dX6_readWord_60 (k := ?_)
    exact g_ireturn dX6_readWord_62 rfl ⟨Nat.zero_le _, Nat.zero_le _⟩ h
  · replace h := wI_pos h37 h
    refine g_aload_n (q0 := 41) (j := 0) rfl dX6_readWord_40 rfl ?_
    refine g_aload_n (q0 := 42) (j := 1) rfl dX6_readWord_41 rfl ?_
    refine g_iload_n (q0 := 43) (j := 2) rfl dX6_readWord_42 rfl ?_
    obtain ⟨v43, e43, h⟩ := h
    refine g_callSp (as := [_]) (rest := [_, _]) mt_X6_spelling ms_X6_spelling ml_X6_91 dX6_readWord_43 (q0 := 46) rfl rfl e43 rfl ⟨by decide, by decide⟩ (Nat.le_of_ble_eq_true rfl) ⟨Nat.zero_le _, Nat.zero_le _⟩ (fun _ => ?_)
    obtain ⟨v46, e46, h⟩ := h
    refine g_callVp (as := [_, _]) (rest := []) mt_X6_isSpelt mi_X6_isSpelt se_X6_isSpelt ml_X6_95 dX6_readWord_46 (q0 := 49) rfl rfl (sh_410 hOK) rfl rfl e46 rfl ⟨by decide, by decide⟩ (Nat.le_of_ble_eq_true rfl) ⟨Nat.zero_le _, Nat.zero_le _⟩ (fun _ => ?_)
    refine g_if_eq (q0 := 52) (tgt := 54) rfl dX6_readWord_49 (by decide) (fun h49 => ?_) (fun h49 => ?_)
    · replace h := wI_pos h49 h
      refine g_iincw (q0 := 57) (lv2 := [_, _, _]) rfl dX6_readWord_54 rfl (by decide) rfl rfl ?_
      refine g_goto (tgt := 34) dX6_readWord_57 (by decide) ?_
      exact h
    · replace h := wI_neg h49 h
      refine g_iload_n (q0 := 53) (j := 2) rfl dX6_readWord_52 rfl ?_
      exact g_ireturn dX6_readWord_53 rfl ⟨Nat.zero_le _, Nat.zero_le _⟩ h
theorem w_X6_readWord {sh : gS} {Q : Option gV → gS → gM → Prop} {a1 : Int} {M : gM} (hOK : gOK sh M) (h : (P_X6_readWord_2 sh Q a1 0 M)) : gC (gr 7 149) yX6_readWord cX6_readWord 3 (some (.int)) [(4, 410), (4, a1)] sh M Q := by
  refine gC_ofA (lv := [_, _, _]) (by decide +kernel) (Nat.le_of_ble_eq_true rfl) rfl (fun hMw hav => ?_)
  refine g_iconst (q0 := 1) rfl dX6_readWord_0 (k := ?_)
  refine g_istore_n (q0 := 2) (j := 2) (lv2 := [_, _, _]) rfl dX6_readWord_1 (by decide) rfl rfl ?_
  exact h
-- ==== X6_isTooMany
theorem dX6_isTooMany_0 : decode cX6_isTooMany 0 = .ok (.iload_n 1, 1) := by decide +kernel
theorem dX6_isTooMany_1 : decode cX6_isTooMany 1 = .ok (.iconst 2, 1) := by decide +kernel
theorem dX6_isTooMany_2 : decode cX6_isTooMany 2 = .ok (.if_icmp .lt 27, 3) := by decide +kernel
theorem dX6_isTooMany_5 : decode cX6_isTooMany 5 = .ok (.iload_n 1, 1) := by decide +kernel
theorem dX6_isTooMany_6 : decode cX6_isTooMany 6 = .ok (.bipush 7, 2) := by decide +kernel
theorem dX6_isTooMany_8 : decode cX6_isTooMany 8 = .ok (.if_icmp .gt 21, 3) := by decide +kernel
theorem dX6_isTooMany_11 : decode cX6_isTooMany 11 = .ok (.aload_n 0, 1) := by decide +kernel
theorem dX6_isTooMany_12 : decode cX6_isTooMany 12 = .ok (.iload_n 1, 1) := by decide +kernel
theorem dX6_isTooMany_13 : decode cX6_isTooMany 13 = .ok (.invokevirtual 72, 3) := by decide +kernel
theorem dX6_isTooMany_16 : decode cX6_isTooMany 16 = .ok (.getfield 142, 3) := by decide +kernel
theorem dX6_isTooMany_19 : decode cX6_isTooMany 19 = .ok (.iconst 4, 1) := by decide +kernel
theorem dX6_isTooMany_20 : decode cX6_isTooMany 20 = .ok (.if_icmp .lt 7, 3) := by decide +kernel
theorem dX6_isTooMany_23 : decode cX6_isTooMany 23 = .ok (.iconst 1, 1) := by decide +kernel
theorem dX6_isTooMany_24 : decode cX6_isTooMany 24 = .ok (.goto 4, 3) := by decide +kernel
theorem dX6_isTooMany_27 : decode cX6_isTooMany 27 = .ok (.iconst 0, 1) := by decide +kernel
theorem dX6_isTooMany_28 : decode cX6_isTooMany 28 = .ok (.ireturn, 1) := by decide +kernel
theorem dX6_isTooMany_29 : decode cX6_isTooMany 29 = .ok (.iload_n 1, 1) := by decide +kernel
theorem dX6_isTooMany_30 : decode cX6_isTooMany 30 = .ok (.bipush 10, 2) := by decide +kernel
theorem dX6_isTooMany_32 : decode cX6_isTooMany 32 = .ok (.if_icmp .ge 5, 3) := by decide +kernel
theorem dX6_isTooMany_35 : decode cX6_isTooMany 35 = .ok (.iconst 0, 1) := by decide +kernel
theorem dX6_isTooMany_36 : decode cX6_isTooMany 36 = .ok (.ireturn, 1) := by decide +kernel
theorem dX6_isTooMany_37 : decode cX6_isTooMany 37 = .ok (.aload_n 0, 1) := by decide +kernel
theorem dX6_isTooMany_38 : decode cX6_isTooMany 38 = .ok (.getfield 22, 3) := by decide +kernel
theorem dX6_isTooMany_41 : decode cX6_isTooMany 41 = .ok (.iload_n 1, 1) := by decide +kernel
theorem dX6_isTooMany_42 : decode cX6_isTooMany 42 = .ok (.iushr, 1) := by decide +kernel
theorem dX6_isTooMany_43 : decode cX6_isTooMany 43 = .ok (.iconst 1, 1) := by decide +kernel
theorem dX6_isTooMany_44 : decode cX6_isTooMany 44 = .ok (.iand, 1) := by decide +kernel
theorem dX6_isTooMany_45 : decode cX6_isTooMany 45 = .ok (.ifCond .eq 7, 3) := by decide +kernel
theorem dX6_isTooMany_48 : decode cX6_isTooMany 48 = .ok (.iconst 1, 1) := by decide +kernel
theorem dX6_isTooMany_49 : decode cX6_isTooMany 49 = .ok (.goto 4, 3) := by decide +kernel
theorem dX6_isTooMany_52 : decode cX6_isTooMany 52 = .ok (.iconst 0, 1) := by decide +kernel
theorem dX6_isTooMany_53 : decode cX6_isTooMany 53 = .ok (.istore_n 2, 1) := by decide +kernel
theorem dX6_isTooMany_54 : decode cX6_isTooMany 54 = .ok (.aload_n 0, 1) := by decide +kernel
theorem dX6_isTooMany_55 : decode cX6_isTooMany 55 = .ok (.dup, 1) := by decide +kernel
theorem dX6_isTooMany_56 : decode cX6_isTooMany 56 = .ok (.getfield 22, 3) := by decide +kernel
theorem dX6_isTooMany_59 : decode cX6_isTooMany 59 = .ok (.iconst 1, 1) := by decide +kernel
theorem dX6_isTooMany_60 : decode cX6_isTooMany 60 = .ok (.iload_n 1, 1) := by decide +kernel
theorem dX6_isTooMany_61 : decode cX6_isTooMany 61 = .ok (.ishl, 1) := by decide +kernel
theorem dX6_isTooMany_62 : decode cX6_isTooMany 62 = .ok (.ior, 1) := by decide +kernel
theorem dX6_isTooMany_63 : decode cX6_isTooMany 63 = .ok (.putfield 22, 3) := by decide +kernel
theorem dX6_isTooMany_66 : decode cX6_isTooMany 66 = .ok (.iload_n 2, 1) := by decide +kernel
theorem dX6_isTooMany_67 : decode cX6_isTooMany 67 = .ok (.ireturn, 1) := by decide +kernel
def P_X6_isTooMany_29 (sh : gS) (Q : Option gV → gS → gM → Prop) (x1 : Int) (M : gM) : Prop := gA (gr 1 21) yX6_isTooMany cX6_isTooMany 3 (some (.boolean)) Q (0, 0) 29 [(4, 410), (0, x1), (9, 0)] [] sh M
theorem w_X6_isTooMany_29 {sh : gS} {Q : Option gV → gS → gM → Prop} {x1 : Int} {M : gM} (hOK : gOK sh M) (h : (if x1 < 10 then
    (Q (some (0, 0)) sh M)
  else
    (if (gand (gushr (M 410 3) x1) 1) = 0 then
      (Q (some (0, 0)) sh (gU M 410 3 (gor (M 410 3) (gshl 1 x1))))
    else
      (Q (some (0, 1)) sh (gU M 410 3 (gor (M 410 3) (gshl 1 x1))))))) : P_X6_isTooMany_29 sh Q x1 M := by
  unfold P_X6_isTooMany_29
  refine g_iload_n (q0 := 30) (j := 1) rfl dX6_isTooMany_29 rfl ?_
  refine g_bipush (q0 := 32) rfl dX6_isTooMany_30 (k := ?_)
  refine g_icmp_ge (q0 := 35) (tgt := 37) rfl dX6_isTooMany_32 (by decide) (fun h32 => ?_) (fun h32 => ?_)
  · replace h := wI_neg (Int.not_lt.mpr h32) h
    refine g_aload_n (q0 := 38) (j := 0) rfl dX6_isTooMany_37 rfl ?_
    refine g_getf (q0 := 41) (t := 0) (fi := 3) rfl rfl ff_X6_22 dX6_isTooMany_38 rfl (sh_410 hOK) ?_
    refine g_iload_n (q0 := 42) (j := 1) rfl dX6_isTooMany_41 rfl ?_
    refine g_iushr (q0 := 43) rfl dX6_isTooMany_42 ?_
    refine g_iconst (q0 := 44) rfl dX6_isTooMany_43 (k := ?_)
    refine g_iand (q0 := 45) rfl dX6_isTooMany_44 ?_
    refine g_if_eq (q0 := 48) (tgt := 52) rfl dX6_isTooMany_45 (by decide) (fun h45 => ?_) (fun h45 => ?_)
    · replace h := wI_pos h45 h
      refine g_iconst (q0 := 53) rfl dX6_isTooMany_52 (k := ?_)
      refine g_istore_n (q0 := 54) (j := 2) (lv2 := [_, _, _]) rfl dX6_isTooMany_53 (by decide) rfl rfl ?_
      refine g_aload_n (q0 := 55) (j := 0) rfl dX6_isTooMany_54 rfl ?_
      refine g_dup (q0 := 56) rfl dX6_isTooMany_55 (k := ?_)
      refine g_getf (q0 := 59) (t := 0) (fi := 3) rfl rfl ff_X6_22 dX6_isTooMany_56 rfl (sh_410 hOK) ?_
      refine g_iconst (q0 := 60) rfl dX6_isTooMany_59 (k := ?_)
      refine g_iload_n (q0 := 61) (j := 1) rfl dX6_isTooMany_60 rfl ?_
      refine g_ishl (q0 := 62) rfl dX6_isTooMany_61 ?_
      refine g_ior (q0 := 63) rfl dX6_isTooMany_62 ?_
      refine g_put (q0 := 66) (t := 0) (fi := 3) rfl rfl ff_X6_22 dX6_isTooMany_63 rfl (sh_410 hOK) rfl (fun _ => ⟨rfl, rfl⟩) ?_
      have hOK1 : gOK sh (gU M 410 3 (gor (M 410 3) (gshl 1 x1))) := gOK_o hOK (sh_410 hOK) (f := 3) rfl rfl
      refine g_iload_n (q0 := 67) (j := 2) rfl dX6_isTooMany_66 rfl ?_
      exact g_zreturn dX6_isTooMany_67 rfl (gnz (Or.inl rfl)) ⟨Nat.zero_le _, Nat.zero_le _⟩ h
    · replace h := wI_neg h45 h
      refine g_iconst (q0 := 49) rfl dX6_isTooMany_48 (k := ?_)
      refine g_goto (tgt := 53) dX6_isTooMany_49 (by decide) ?_
      refine g_istore_n (q0 := 54) (j := 2) (lv2 := [_, _, _]) rfl dX6_isTooMany_53 (by decide) rfl rfl ?_
      refine g_aload_n (q0 := 55) (j := 0) rfl dX6_isTooMany_54 rfl ?_
      refine g_dup (q0 := 56) rfl dX6_isTooMany_55 (k := ?_)
      refine g_getf (q0 := 59) (t := 0) (fi := 3) rfl rfl ff_X6_22 dX6_isTooMany_56 rfl (sh_410 hOK) ?_
      refine g_iconst (q0 := 60) rfl dX6_isTooMany_59 (k := ?_)
      refine g_iload_n (q0 := 61) (j := 1) rfl dX6_isTooMany_60 rfl ?_
      refine g_ishl (q0 := 62) rfl dX6_isTooMany_61 ?_
      refine g_ior (q0 := 63) rfl dX6_isTooMany_62 ?_
      refine g_put (q0 := 66) (t := 0) (fi := 3) rfl rfl ff_X6_22 dX6_isTooMany_63 rfl (sh_410 hOK) rfl (fun _ => ⟨rfl, rfl⟩) ?_
      have hOK2 : gOK sh (gU M 410 3 (gor (M 410 3) (gshl 1 x1))) := gOK_o hOK (sh_410 hOK) (f := 3) rfl rfl
      refine g_iload_n (q0 := 67) (j := 2) rfl dX6_isTooMany_66 rfl ?_
      exact g_zreturn dX6_isTooMany_67 rfl (gnz (Or.inr rfl)) ⟨Nat.zero_le _, Nat.zero_le _⟩ h
  · replace h := wI_pos h32 h
    refine g_iconst (q0 := 36) rfl dX6_isTooMany_35 (k := ?_)
    exact g_zreturn dX6_isTooMany_36 rfl (gnz (Or.inl rfl)) ⟨Nat.zero_le _, Nat.zero_le _⟩ h
theorem w_X6_isTooMany {sh : gS} {Q : Option gV → gS → gM → Prop} {a1 : Int} {M : gM} (hOK : gOK sh M) (h : (if a1 < 2 then
    (P_X6_isTooMany_29 sh Q a1 M)
  else
    (if (7 : Int) < a1 then
      (P_X6_isTooMany_29 sh Q a1 M)
    else
      (∃ v13 : Int, gC (gr 0 0) yX6_pairsOf cX6_pairsOf 2 (some (.object "CarriedHistory$Pairs")) [(4, 410), (0, a1)] sh M (gPp sh M (4, v13)) ∧
        ((gsh sh v13 = some (0, 5) ∧ v13 < 758) ∧
          (if (M v13 0) < 4 then
            (Q (some (0, 0)) sh M)
          else
            (Q (some (0, 1)) sh M))))))) : gC (gr 1 21) yX6_isTooMany cX6_isTooMany 3 (some (.boolean)) [(4, 410), (0, a1)] sh M Q := by
  refine gC_ofA (lv := [_, _, _]) (by decide +kernel) (Nat.le_of_ble_eq_true rfl) rfl (fun hMw hav => ?_)
  refine g_iload_n (q0 := 1) (j := 1) rfl dX6_isTooMany_0 rfl ?_
  refine g_iconst (q0 := 2) rfl dX6_isTooMany_1 (k := ?_)
  refine g_icmp_lt (q0 := 5) (tgt := 29) rfl dX6_isTooMany_2 (by decide) (fun h2 => ?_) (fun h2 => ?_)
  · replace h := wI_pos h2 h
    exact h
  · replace h := wI_neg (Int.not_lt.mpr h2) h
    refine g_iload_n (q0 := 6) (j := 1) rfl dX6_isTooMany_5 rfl ?_
    refine g_bipush (q0 := 8) rfl dX6_isTooMany_6 (k := ?_)
    refine g_icmp_gt (q0 := 11) (tgt := 29) rfl dX6_isTooMany_8 (by decide) (fun h8 => ?_) (fun h8 => ?_)
    · replace h := wI_pos h8 h
      exact h
    · replace h := wI_neg (Int.not_lt.mpr h8) h
      refine g_aload_n (q0 := 12) (j := 0) rfl dX6_isTooMany_11 rfl ?_
      refine g_iload_n (q0 := 13) (j := 1) rfl dX6_isTooMany_12 rfl ?_
      obtain ⟨v13, e13, h⟩ := h
      refine g_callVp (as := [_]) (rest := []) mt_X6_pairsOf mi_X6_pairsOf se_X6_pairsOf ml_X6_72 dX6_isTooMany_13 (q0 := 16) rfl rfl (sh_410 hOK) rfl rfl e13 rfl ⟨by decide, by decide⟩ (Nat.le_of_ble_eq_true rfl) ⟨Nat.zero_le _, Nat.zero_le _⟩ (fun _ => ?_)
      obtain ⟨g3, h⟩ := h
      refine g_getf (q0 := 19) (t := 0) (fi := 0) rfl rfl ff_X6_142 dX6_isTooMany_16 rfl g3.1 ?_
      refine g_iconst (q0 := 20) rfl dX6_isTooMany_19 (k := ?_)
      refine g_icmp_lt (q0 := 23) (tgt := 27) rfl dX6_isTooMany_20 (by decide) (fun h20 => ?_) (fun h20 => ?_)
      · replace h := wI_pos h20 h
        refine g_iconst (q0 := 28) rfl dX6_isTooMany_27 (k := ?_)
        exact g_zreturn dX6_isTooMany_28 rfl (gnz (Or.inl rfl)) ⟨Nat.zero_le _, Nat.zero_le _⟩ h
      · replace h := wI_neg (Int.not_lt.mpr h20) h
        refine g_iconst (q0 := 24) rfl dX6_isTooMany_23 (k := ?_)
        refine g_goto (tgt := 28) dX6_isTooMany_24 (by decide) ?_
        exact g_zreturn dX6_isTooMany_28 rfl (gnz (Or.inr rfl)) ⟨Nat.zero_le _, Nat.zero_le _⟩ h
-- ==== X6_pairsOf
theorem dX6_pairsOf_0 : decode cX6_pairsOf 0 = .ok (.iload_n 1, 1) := by decide +kernel
theorem dX6_pairsOf_1 : decode cX6_pairsOf 1 = .ok (.tableswitch 87 2 7 #[39, 47, 55, 63, 71, 79], 39) := by decide +kernel
theorem dX6_pairsOf_40 : decode cX6_pairsOf 40 = .ok (.aload_n 0, 1) := by decide +kernel
theorem dX6_pairsOf_41 : decode cX6_pairsOf 41 = .ok (.getfield 12, 3) := by decide +kernel
theorem dX6_pairsOf_44 : decode cX6_pairsOf 44 = .ok (.getfield 145, 3) := by decide +kernel
theorem dX6_pairsOf_47 : decode cX6_pairsOf 47 = .ok (.areturn, 1) := by decide +kernel
theorem dX6_pairsOf_48 : decode cX6_pairsOf 48 = .ok (.aload_n 0, 1) := by decide +kernel
theorem dX6_pairsOf_49 : decode cX6_pairsOf 49 = .ok (.getfield 12, 3) := by decide +kernel
theorem dX6_pairsOf_52 : decode cX6_pairsOf 52 = .ok (.getfield 149, 3) := by decide +kernel
theorem dX6_pairsOf_55 : decode cX6_pairsOf 55 = .ok (.areturn, 1) := by decide +kernel
theorem dX6_pairsOf_56 : decode cX6_pairsOf 56 = .ok (.aload_n 0, 1) := by decide +kernel
theorem dX6_pairsOf_57 : decode cX6_pairsOf 57 = .ok (.getfield 12, 3) := by decide +kernel
theorem dX6_pairsOf_60 : decode cX6_pairsOf 60 = .ok (.getfield 152, 3) := by decide +kernel
theorem dX6_pairsOf_63 : decode cX6_pairsOf 63 = .ok (.areturn, 1) := by decide +kernel
theorem dX6_pairsOf_64 : decode cX6_pairsOf 64 = .ok (.aload_n 0, 1) := by decide +kernel
theorem dX6_pairsOf_65 : decode cX6_pairsOf 65 = .ok (.getfield 12, 3) := by decide +kernel
theorem dX6_pairsOf_68 : decode cX6_pairsOf 68 = .ok (.getfield 155, 3) := by decide +kernel
theorem dX6_pairsOf_71 : decode cX6_pairsOf 71 = .ok (.areturn, 1) := by decide +kernel
theorem dX6_pairsOf_72 : decode cX6_pairsOf 72 = .ok (.aload_n 0, 1) := by decide +kernel
theorem dX6_pairsOf_73 : decode cX6_pairsOf 73 = .ok (.getfield 12, 3) := by decide +kernel
theorem dX6_pairsOf_76 : decode cX6_pairsOf 76 = .ok (.getfield 158, 3) := by decide +kernel
theorem dX6_pairsOf_79 : decode cX6_pairsOf 79 = .ok (.areturn, 1) := by decide +kernel
theorem dX6_pairsOf_80 : decode cX6_pairsOf 80 = .ok (.aload_n 0, 1) := by decide +kernel
theorem dX6_pairsOf_81 : decode cX6_pairsOf 81 = .ok (.getfield 12, 3) := by decide +kernel
theorem dX6_pairsOf_84 : decode cX6_pairsOf 84 = .ok (.getfield 161, 3) := by decide +kernel
theorem dX6_pairsOf_87 : decode cX6_pairsOf 87 = .ok (.areturn, 1) := by decide +kernel
theorem dX6_pairsOf_88 : decode cX6_pairsOf 88 = .ok (.aload_n 0, 1) := by decide +kernel
theorem dX6_pairsOf_89 : decode cX6_pairsOf 89 = .ok (.getfield 12, 3) := by decide +kernel
theorem dX6_pairsOf_92 : decode cX6_pairsOf 92 = .ok (.getfield 164, 3) := by decide +kernel
theorem dX6_pairsOf_95 : decode cX6_pairsOf 95 = .ok (.areturn, 1) := by decide +kernel
theorem w_X6_pairsOf {sh : gS} {Q : Option gV → gS → gM → Prop} {a1 : Int} {M : gM} (hOK : gOK sh M) (h : (if a1 = 2 then
    (Q (some (4, 412)) sh M)
  else
    (if a1 = 3 then
      (Q (some (4, 415)) sh M)
    else
      (if a1 = 4 then
        (Q (some (4, 418)) sh M)
      else
        (if a1 = 5 then
          (Q (some (4, 421)) sh M)
        else
          (if a1 = 6 then
            (Q (some (4, 424)) sh M)
          else
            (if a1 = 7 then
              (Q (some (4, 427)) sh M)
            else
              (Q (some (4, 430)) sh M)))))))) : gC (gr 0 0) yX6_pairsOf cX6_pairsOf 2 (some (.object "CarriedHistory$Pairs")) [(4, 410), (0, a1)] sh M Q := by
  refine gC_ofA (lv := [_, _]) (by decide +kernel) (Nat.le_of_ble_eq_true rfl) rfl (fun hMw hav => ?_)
  refine g_iload_n (q0 := 1) (j := 1) rfl dX6_pairsOf_0 rfl ?_
  by_cases hs0 : a1 = 2
  · replace h := wI_pos hs0 h
    refine g_tabIn (off := 39) (tgt := 40) dX6_pairsOf_1 (by omega) (by omega) (by rw [hs0]; rfl) (by decide) ?_
    refine g_aload_n (q0 := 41) (j := 0) rfl dX6_pairsOf_40 rfl ?_
    refine g_getp (q0 := 44) (b := 411) rfl ff_X6_12 dX6_pairsOf_41 rfl hOK (by decide) (sh_410 hOK) rfl (by decide) ?_
    refine g_getp (q0 := 47) (b := 412) rfl ff_X6_145 dX6_pairsOf_44 rfl hOK (by decide) (sh_411 hOK) rfl (by decide) ?_
    exact g_areturn dX6_pairsOf_47 rfl (by decide) ⟨Nat.zero_le _, Nat.zero_le _⟩ h
  · replace h := wI_neg hs0 h
    by_cases hs1 : a1 = 3
    · replace h := wI_pos hs1 h
      refine g_tabIn (off := 47) (tgt := 48) dX6_pairsOf_1 (by omega) (by omega) (by rw [hs1]; rfl) (by decide) ?_
      refine g_aload_n (q0 := 49) (j := 0) rfl dX6_pairsOf_48 rfl ?_
      refine g_getp (q0 := 52) (b := 411) rfl ff_X6_12 dX6_pairsOf_49 rfl hOK (by decide) (sh_410 hOK) rfl (by decide) ?_
      refine g_getp (q0 := 55) (b := 415) rfl ff_X6_149 dX6_pairsOf_52 rfl hOK (by decide) (sh_411 hOK) rfl (by decide) ?_
      exact g_areturn dX6_pairsOf_55 rfl (by decide) ⟨Nat.zero_le _, Nat.zero_le _⟩ h
    · replace h := wI_neg hs1 h
      by_cases hs2 : a1 = 4
      · replace h := wI_pos hs2 h
        refine g_tabIn (off := 55) (tgt := 56) dX6_pairsOf_1 (by omega) (by omega) (by rw [hs2]; rfl) (by decide) ?_
        refine g_aload_n (q0 := 57) (j := 0) rfl dX6_pairsOf_56 rfl ?_
        refine g_getp (q0 := 60) (b := 411) rfl ff_X6_12 dX6_pairsOf_57 rfl hOK (by decide) (sh_410 hOK) rfl (by decide) ?_
        refine g_getp (q0 := 63) (b := 418) rfl ff_X6_152 dX6_pairsOf_60 rfl hOK (by decide) (sh_411 hOK) rfl (by decide) ?_
        exact g_areturn dX6_pairsOf_63 rfl (by decide) ⟨Nat.zero_le _, Nat.zero_le _⟩ h
      · replace h := wI_neg hs2 h
        by_cases hs3 : a1 = 5
        · replace h := wI_pos hs3 h
          refine g_tabIn (off := 63) (tgt := 64) dX6_pairsOf_1 (by omega) (by omega) (by rw [hs3]; rfl) (by decide) ?_
          refine g_aload_n (q0 := 65) (j := 0) rfl dX6_pairsOf_64 rfl ?_
          refine g_getp (q0 := 68) (b := 411) rfl ff_X6_12 dX6_pairsOf_65 rfl hOK (by decide) (sh_410 hOK) rfl (by decide) ?_
          refine g_getp (q0 := 71) (b := 421) rfl ff_X6_155 dX6_pairsOf_68 rfl hOK (by decide) (sh_411 hOK) rfl (by decide) ?_
          exact g_areturn dX6_pairsOf_71 rfl (by decide) ⟨Nat.zero_le _, Nat.zero_le _⟩ h
        · replace h := wI_neg hs3 h
          by_cases hs4 : a1 = 6
          · replace h := wI_pos hs4 h
            refine g_tabIn (off := 71) (tgt := 72) dX6_pairsOf_1 (by omega) (by omega) (by rw [hs4]; rfl) (by decide) ?_
            refine g_aload_n (q0 := 73) (j := 0) rfl dX6_pairsOf_72 rfl ?_
            refine g_getp (q0 := 76) (b := 411) rfl ff_X6_12 dX6_pairsOf_73 rfl hOK (by decide) (sh_410 hOK) rfl (by decide) ?_
            refine g_getp (q0 := 79) (b := 424) rfl ff_X6_158 dX6_pairsOf_76 rfl hOK (by decide) (sh_411 hOK) rfl (by decide) ?_
            exact g_areturn dX6_pairsOf_79 rfl (by decide) ⟨Nat.zero_le _, Nat.zero_le _⟩ h
          · replace h := wI_neg hs4 h
            by_cases hs5 : a1 = 7
            · replace h := wI_pos hs5 h
              refine g_tabIn (off := 79) (tgt := 80) dX6_pairsOf_1 (by omega) (by omega) (by rw [hs5]; rfl) (by decide) ?_
              refine g_aload_n (q0 := 81) (j := 0) rfl dX6_pairsOf_80 rfl ?_
              refine g_getp (q0 := 84) (b := 411) rfl ff_X6_12 dX6_pairsOf_81 rfl hOK (by decide) (sh_410 hOK) rfl (by decide) ?_
              refine g_getp (q0 := 87) (b := 427) rfl ff_X6_161 dX6_pairsOf_84 rfl hOK (by decide) (sh_411 hOK) rfl (by decide) ?_
              exact g_areturn dX6_pairsOf_87 rfl (by decide) ⟨Nat.zero_le _, Nat.zero_le _⟩ h
            · replace h := wI_neg hs5 h
              refine g_tabOut (tgt := 88) dX6_pairsOf_1 (by omega) (by decide) ?_
              refine g_aload_n (q0 := 89) (j := 0) rfl dX6_pairsOf_88 rfl ?_
              refine g_getp (q0 := 92) (b := 411) rfl ff_X6_12 dX6_pairsOf_89 rfl hOK (by decide) (sh_410 hOK) rfl (by decide) ?_
              refine g_getp (q0 := 95) (b := 430) rfl ff_X6_164 dX6_pairsOf_92 rfl hOK (by decide) (sh_411 hOK) rfl (by decide) ?_
              exact g_areturn dX6_pairsOf_95 rfl (by decide) ⟨Nat.zero_le _, Nat.zero_le _⟩ h
-- ==== X6_readPair
theorem dX6_readPair_0 : decode cX6_readPair 0 = .ok (.aload_n 0, 1) := by decide +kernel
theorem dX6_readPair_1 : decode cX6_readPair 1 = .ok (.iload_n 2, 1) := by decide +kernel
theorem dX6_readPair_2 : decode cX6_readPair 2 = .ok (.invokevirtual 72, 3) := by decide +kernel
theorem dX6_readPair_5 : decode cX6_readPair 5 = .ok (.astore_n 3, 1) := by decide +kernel
theorem dX6_readPair_6 : decode cX6_readPair 6 = .ok (.iload_n 2, 1) := by decide +kernel
theorem dX6_readPair_7 : decode cX6_readPair 7 = .ok (.bipush 7, 2) := by decide +kernel
theorem dX6_readPair_9 : decode cX6_readPair 9 = .ok (.if_icmp .ne 12, 3) := by decide +kernel
theorem dX6_readPair_12 : decode cX6_readPair 12 = .ok (.aload_n 0, 1) := by decide +kernel
theorem dX6_readPair_13 : decode cX6_readPair 13 = .ok (.aload_n 1, 1) := by decide +kernel
theorem dX6_readPair_14 : decode cX6_readPair 14 = .ok (.iconst (-1), 1) := by decide +kernel
theorem dX6_readPair_15 : decode cX6_readPair 15 = .ok (.invokevirtual 167, 3) := by decide +kernel
theorem dX6_readPair_18 : decode cX6_readPair 18 = .ok (.goto 9, 3) := by decide +kernel
theorem dX6_readPair_21 : decode cX6_readPair 21 = .ok (.aload_n 0, 1) := by decide +kernel
theorem dX6_readPair_22 : decode cX6_readPair 22 = .ok (.aload_n 1, 1) := by decide +kernel
theorem dX6_readPair_23 : decode cX6_readPair 23 = .ok (.iload_n 2, 1) := by decide +kernel
theorem dX6_readPair_24 : decode cX6_readPair 24 = .ok (.invokevirtual 171, 3) := by decide +kernel
theorem dX6_readPair_27 : decode cX6_readPair 27 = .ok (.istore 4, 2) := by decide +kernel
theorem dX6_readPair_29 : decode cX6_readPair 29 = .ok (.aload_n 1, 1) := by decide +kernel
theorem dX6_readPair_30 : decode cX6_readPair 30 = .ok (.getfield 44, 3) := by decide +kernel
theorem dX6_readPair_33 : decode cX6_readPair 33 = .ok (.ifCond .eq 4, 3) := by decide +kernel
theorem dX6_readPair_36 : decode cX6_readPair 36 = .ok (.return_, 1) := by decide +kernel
theorem dX6_readPair_37 : decode cX6_readPair 37 = .ok (.aload_n 3, 1) := by decide +kernel
theorem dX6_readPair_38 : decode cX6_readPair 38 = .ok (.iload 4, 2) := by decide +kernel
theorem dX6_readPair_40 : decode cX6_readPair 40 = .ok (.invokevirtual 174, 3) := by decide +kernel
theorem dX6_readPair_43 : decode cX6_readPair 43 = .ok (.ifCond .lt 14, 3) := by decide +kernel
theorem dX6_readPair_46 : decode cX6_readPair 46 = .ok (.aload_n 1, 1) := by decide +kernel
theorem dX6_readPair_47 : decode cX6_readPair 47 = .ok (.bipush 6, 2) := by decide +kernel
theorem dX6_readPair_49 : decode cX6_readPair 49 = .ok (.aload_n 0, 1) := by decide +kernel
theorem dX6_readPair_50 : decode cX6_readPair 50 = .ok (.getfield 54, 3) := by decide +kernel
theorem dX6_readPair_53 : decode cX6_readPair 53 = .ok (.invokevirtual 61, 3) := by decide +kernel
theorem dX6_readPair_56 : decode cX6_readPair 56 = .ok (.return_, 1) := by decide +kernel
theorem dX6_readPair_57 : decode cX6_readPair 57 = .ok (.aload_n 1, 1) := by decide +kernel
theorem dX6_readPair_58 : decode cX6_readPair 58 = .ok (.bipush 62, 2) := by decide +kernel
theorem dX6_readPair_60 : decode cX6_readPair 60 = .ok (.invokevirtual 47, 3) := by decide +kernel
theorem dX6_readPair_63 : decode cX6_readPair 63 = .ok (.ifCond .ne 4, 3) := by decide +kernel
theorem dX6_readPair_66 : decode cX6_readPair 66 = .ok (.return_, 1) := by decide +kernel
theorem dX6_readPair_67 : decode cX6_readPair 67 = .ok (.iload_n 2, 1) := by decide +kernel
theorem dX6_readPair_68 : decode cX6_readPair 68 = .ok (.bipush 7, 2) := by decide +kernel
theorem dX6_readPair_70 : decode cX6_readPair 70 = .ok (.if_icmp .ne 32, 3) := by decide +kernel
theorem dX6_readPair_73 : decode cX6_readPair 73 = .ok (.aload_n 1, 1) := by decide +kernel
theorem dX6_readPair_74 : decode cX6_readPair 74 = .ok (.invokevirtual 177, 3) := by decide +kernel
theorem dX6_readPair_77 : decode cX6_readPair 77 = .ok (.bipush 46, 2) := by decide +kernel
theorem dX6_readPair_79 : decode cX6_readPair 79 = .ok (.if_icmp .ne 23, 3) := by decide +kernel
theorem dX6_readPair_82 : decode cX6_readPair 82 = .ok (.aload_n 1, 1) := by decide +kernel
theorem dX6_readPair_83 : decode cX6_readPair 83 = .ok (.dup, 1) := by decide +kernel
theorem dX6_readPair_84 : decode cX6_readPair 84 = .ok (.getfield 51, 3) := by decide +kernel
theorem dX6_readPair_87 : decode cX6_readPair 87 = .ok (.iconst 1, 1) := by decide +kernel
theorem dX6_readPair_88 : decode cX6_readPair 88 = .ok (.iadd, 1) := by decide +kernel
theorem dX6_readPair_89 : decode cX6_readPair 89 = .ok (.putfield 51, 3) := by decide +kernel
theorem dX6_readPair_92 : decode cX6_readPair 92 = .ok (.aload_n 3, 1) := by decide +kernel
theorem dX6_readPair_93 : decode cX6_readPair 93 = .ok (.iload 4, 2) := by decide +kernel
theorem dX6_readPair_95 : decode cX6_readPair 95 = .ok (.iconst (-1), 1) := by decide +kernel
theorem dX6_readPair_96 : decode cX6_readPair 96 = .ok (.invokevirtual 76, 3) := by decide +kernel
theorem dX6_readPair_99 : decode cX6_readPair 99 = .ok (.goto 31, 3) := by decide +kernel
theorem dX6_readPair_102 : decode cX6_readPair 102 = .ok (.aload_n 3, 1) := by decide +kernel
theorem dX6_readPair_103 : decode cX6_readPair 103 = .ok (.iload 4, 2) := by decide +kernel
theorem dX6_readPair_105 : decode cX6_readPair 105 = .ok (.iload_n 2, 1) := by decide +kernel
theorem dX6_readPair_106 : decode cX6_readPair 106 = .ok (.bipush 7, 2) := by decide +kernel
theorem dX6_readPair_108 : decode cX6_readPair 108 = .ok (.if_icmp .ne 13, 3) := by decide +kernel
theorem dX6_readPair_111 : decode cX6_readPair 111 = .ok (.aload_n 0, 1) := by decide +kernel
theorem dX6_readPair_112 : decode cX6_readPair 112 = .ok (.aload_n 1, 1) := by decide +kernel
theorem dX6_readPair_113 : decode cX6_readPair 113 = .ok (.iload 4, 2) := by decide +kernel
theorem dX6_readPair_115 : decode cX6_readPair 115 = .ok (.invokevirtual 167, 3) := by decide +kernel
theorem dX6_readPair_118 : decode cX6_readPair 118 = .ok (.goto 9, 3) := by decide +kernel
theorem dX6_readPair_121 : decode cX6_readPair 121 = .ok (.aload_n 0, 1) := by decide +kernel
theorem dX6_readPair_122 : decode cX6_readPair 122 = .ok (.aload_n 1, 1) := by decide +kernel
theorem dX6_readPair_123 : decode cX6_readPair 123 = .ok (.iload_n 2, 1) := by decide +kernel
theorem dX6_readPair_124 : decode cX6_readPair 124 = .ok (.invokevirtual 171, 3) := by decide +kernel
theorem dX6_readPair_127 : decode cX6_readPair 127 = .ok (.invokevirtual 76, 3) := by decide +kernel
theorem dX6_readPair_130 : decode cX6_readPair 130 = .ok (.return_, 1) := by decide +kernel
def P_X6_readPair_27 (sh : gS) (Q : Option gV → gS → gM → Prop) (x1 x2 x3 s0 : Int) (M : gM) : Prop := gA (gr 3 70) yX6_readPair cX6_readPair 5 none Q (0, 0) 27 [(4, 410), (4, x1), (0, x2), (4, x3), (9, 0)] [(0, s0)] sh M
def P_X6_readPair_102 (sh : gS) (Q : Option gV → gS → gM → Prop) (x1 x2 x3 x4 : Int) (M : gM) : Prop := gA (gr 3 70) yX6_readPair cX6_readPair 5 none Q (0, 0) 102 [(4, 410), (4, x1), (0, x2), (4, x3), (0, x4)] [] sh M
theorem w_X6_readPair_27 {sh : gS} {Q : Option gV → gS → gM → Prop} {x1 x2 x3 s0 : Int} {M : gM} (hOK : gOK sh M) (h : ((gsh sh x1 = some (0, 10) ∧ x1 < 758) ∧
    (if (M x1 4) = 0 then
      ((gsh sh x3 = some (0, 5) ∧ x3 < 758) ∧
        (∃ v40 : Int, gC (gr 0 0) yX4_find cX4_find 3 (some (.int)) [(4, x3), (0, s0)] sh M (gPp sh M (0, v40)) ∧
          (if v40 < 0 then
            (∃ P60 : Option gV → gM → Prop, gC (gr 1 22) yX9_expect cX9_expect 2 (some (.boolean)) [(4, x1), (0, 62)] sh M (gPm sh P60) ∧ ∀ (r60 : Option gV) (M60 : gM), P60 r60 M60 → ∃ v60 : Int, r60 = some (0, v60) ∧ gOK sh M60 ∧
              (if v60 = 0 then
                (Q none sh M60)
              else
                (if x2 = 7 then
                  (∃ v74 : Int, gC (gr 0 0) yX9_next cX9_next 1 (some (.int)) [(4, x1)] sh M60 (gPp sh M60 (0, v74)) ∧
                    (if v74 = 46 then
                      (∃ P96 : Option gV → gM → Prop, gC (gr 0 0) yX4_add cX4_add 3 none [(4, x3), (0, s0), (0, -1)] sh (gU M60 x1 2 (gw32 ((M60 x1 2) + (1 : Int)))) (gPm sh P96) ∧ ∀ (r96 : Option gV) (M96 : gM), P96 r96 M96 → r96 = none ∧ gOK sh M96 ∧
                        (Q none sh M96))
                    else
                      (P_X6_readPair_102 sh Q x1 x2 x3 s0 M60)))
                else
                  (P_X6_readPair_102 sh Q x1 x2 x3 s0 M60))))
          else
            (∃ P53 : Option gV → gM → Prop, gC (gr 0 0) yX9_fail cX9_fail 3 none [(4, x1), (0, 6), (0, (M 410 2))] sh M (gPm sh P53) ∧ ∀ (r53 : Option gV) (M53 : gM), P53 r53 M53 → r53 = none ∧ gOK sh M53 ∧
              (Q none sh M53)))))
    else
      (Q none sh M)))) : P_X6_readPair_27 sh Q x1 x2 x3 s0 M := by
  unfold P_X6_readPair_27
  refine g_istore (q0 := 29) (j := 4) (lv2 := [_, _, _, _, _]) rfl dX6_readPair_27 (by decide) rfl rfl ?_
  refine g_aload_n (q0 := 30) (j := 1) rfl dX6_readPair_29 rfl ?_
  obtain ⟨g1, h⟩ := h
  refine g_getf (q0 := 33) (t := 0) (fi := 4) rfl rfl ff_X6_44 dX6_readPair_30 rfl g1.1 ?_
  refine g_if_eq (q0 := 36) (tgt := 37) rfl dX6_readPair_33 (by decide) (fun h33 => ?_) (fun h33 => ?_)
  · replace h := wI_pos h33 h
    refine g_aload_n (q0 := 38) (j := 3) rfl dX6_readPair_37 rfl ?_
    refine g_iload (q0 := 40) (j := 4) rfl dX6_readPair_38 rfl ?_
    obtain ⟨g2, h⟩ := h
    obtain ⟨v40, e40, h⟩ := h
    refine g_callVp (as := [_]) (rest := []) mt_X4_find mi_X4_find se_X4_find ml_X6_174 dX6_readPair_40 (q0 := 43) rfl rfl g2.1 rfl rfl e40 rfl ⟨by decide, by decide⟩ (Nat.le_of_ble_eq_true rfl) ⟨Nat.zero_le _, Nat.zero_le _⟩ (fun _ => ?_)
    refine g_if_lt (q0 := 46) (tgt := 57) rfl dX6_readPair_43 (by decide) (fun h43 => ?_) (fun h43 => ?_)
    · replace h := wI_pos h43 h
      refine g_aload_n (q0 := 58) (j := 1) rfl dX6_readPair_57 rfl ?_
      refine g_bipush (q0 := 60) rfl dX6_readPair_58 (k := ?_)
      obtain ⟨P60, e60, h⟩ := h
      refine g_callVm (as := [_]) (rest := []) mt_X9_expect mi_X9_expect se_X9_expect ml_X6_47 dX6_readPair_60 (q0 := 63) rfl rfl g1.1 rfl rfl e60 rfl ⟨by decide, by decide⟩ (Nat.le_of_ble_eq_true rfl) ⟨Nat.zero_le _, Nat.zero_le _⟩ (fun r60 M60 hP60 hw60 hMw60 => ?_)
      obtain ⟨v60, hr60, hOK3, h⟩ := h r60 M60 hP60
      subst hr60
      refine g_if_ne (q0 := 66) (tgt := 67) rfl dX6_readPair_63 (by decide) (fun h63 => ?_) (fun h63 => ?_)
      · replace h := wI_neg h63 h
        refine g_iload_n (q0 := 68) (j := 2) rfl dX6_readPair_67 rfl ?_
        refine g_bipush (q0 := 70) rfl dX6_readPair_68 (k := ?_)
        refine g_icmp_ne (q0 := 73) (tgt := 102) rfl dX6_readPair_70 (by decide) (fun h70 => ?_) (fun h70 => ?_)
        · replace h := wI_neg h70 h
          exact h
        · replace h := wI_pos h70 h
          refine g_aload_n (q0 := 74) (j := 1) rfl dX6_readPair_73 rfl ?_
          obtain ⟨v74, e74, h⟩ := h
          refine g_callVp (as := []) (rest := []) mt_X9_next mi_X9_next se_X9_next ml_X6_177 dX6_readPair_74 (q0 := 77) rfl rfl g1.1 rfl rfl e74 rfl ⟨by decide, by decide⟩ (Nat.le_of_ble_eq_true rfl) ⟨Nat.zero_le _, Nat.zero_le _⟩ (fun _ => ?_)
          refine g_bipush (q0 := 79) rfl dX6_readPair_77 (k := ?_)
          refine g_icmp_ne (q0 := 82) (tgt := 102) rfl dX6_readPair_79 (by decide) (fun h79 => ?_) (fun h79 => ?_)
          · replace h := wI_neg h79 h
            exact h
          · replace h := wI_pos h79 h
            refine g_aload_n (q0 := 83) (j := 1) rfl dX6_readPair_82 rfl ?_
            refine g_dup (q0 := 84) rfl dX6_readPair_83 (k := ?_)
            refine g_getf (q0 := 87) (t := 0) (fi := 2) rfl rfl ff_X6_51 dX6_readPair_84 rfl g1.1 ?_
            refine g_iconst (q0 := 88) rfl dX6_readPair_87 (k := ?_)
            refine g_iaddw (q0 := 89) rfl dX6_readPair_88 ?_
            refine g_put (q0 := 92) (t := 0) (fi := 2) rfl rfl ff_X6_51 dX6_readPair_89 rfl g1.1 rfl (fun _ => ⟨rfl, rfl⟩) ?_
            have hOK4 : gOK sh (gU M60 x1 2 (gw32 ((M60 x1 2) + (1 : Int)))) := gOK_o hOK3 g1.1 (f := 2) rfl rfl
            refine g_aload_n (q0 := 93) (j := 3) rfl dX6_readPair_92 rfl ?_
            refine g_iload (q0 := 95) (j := 4) rfl dX6_readPair_93 rfl ?_
            refine g_iconst (q0 := 96) rfl dX6_readPair_95 (k := ?_)
            obtain ⟨P96, e96, h⟩ := h
            refine g_callVm (as := [_, _]) (rest := []) mt_X4_add mi_X4_add se_X4_add ml_X6_76 dX6_readPair_96 (q0 := 99) rfl rfl g2.1 rfl rfl e96 rfl ⟨by decide, by decide⟩ (Nat.le_of_ble_eq_true rfl) ⟨Nat.zero_le _, Nat.zero_le _⟩ (fun r96 M96 hP96 hw96 hMw96 => ?_)
            obtain ⟨hr96, hOK5, h⟩ := h r96 M96 hP96
            subst hr96
            refine g_goto (tgt := 130) dX6_readPair_99 (by decide) ?_
            exact g_return dX6_readPair_130 rfl ⟨Nat.zero_le _, Nat.zero_le _⟩ h
      · replace h := wI_pos h63 h
        exact g_return dX6_readPair_66 rfl ⟨Nat.zero_le _, Nat.zero_le _⟩ h
    · replace h := wI_neg (Int.not_lt.mpr h43) h
      refine g_aload_n (q0 := 47) (j := 1) rfl dX6_readPair_46 rfl ?_
      refine g_bipush (q0 := 49) rfl dX6_readPair_47 (k := ?_)
      refine g_aload_n (q0 := 50) (j := 0) rfl dX6_readPair_49 rfl ?_
      refine g_getf (q0 := 53) (t := 0) (fi := 2) rfl rfl ff_X6_54 dX6_readPair_50 rfl (sh_410 hOK) ?_
      obtain ⟨P53, e53, h⟩ := h
      refine g_callVm (as := [_, _]) (rest := []) mt_X9_fail mi_X9_fail se_X9_fail ml_X6_61 dX6_readPair_53 (q0 := 56) rfl rfl g1.1 rfl rfl e53 rfl ⟨by decide, by decide⟩ (Nat.le_of_ble_eq_true rfl) ⟨Nat.zero_le _, Nat.zero_le _⟩ (fun r53 M53 hP53 hw53 hMw53 => ?_)
      obtain ⟨hr53, hOK6, h⟩ := h r53 M53 hP53
      subst hr53
      exact g_return dX6_readPair_56 rfl ⟨Nat.zero_le _, Nat.zero_le _⟩ h
  · replace h := wI_neg h33 h
    exact g_return dX6_readPair_36 rfl ⟨Nat.zero_le _, Nat.zero_le _⟩ h
theorem w_X6_readPair_102 {sh : gS} {Q : Option gV → gS → gM → Prop} {x1 x2 x3 x4 : Int} {M : gM} (hOK : gOK sh M) (h : (if x2 = 7 then
    (∃ P115 : Option gV → gM → Prop, gC (gr 2 46) yX6_readCommit cX6_readCommit 5 (some (.int)) [(4, 410), (4, x1), (0, x4)] sh M (gPm sh P115) ∧ ∀ (r115 : Option gV) (M115 : gM), P115 r115 M115 → ∃ v115 : Int, r115 = some (0, v115) ∧ gOK sh M115 ∧
      ((gsh sh x3 = some (0, 5) ∧ x3 < 758) ∧
        (∃ P127 : Option gV → gM → Prop, gC (gr 0 0) yX4_add cX4_add 3 none [(4, x3), (0, x4), (0, v115)] sh M115 (gPm sh P127) ∧ ∀ (r127 : Option gV) (M127 : gM), P127 r127 M127 → r127 = none ∧ gOK sh M127 ∧
          (Q none sh M127))))
  else
    (∃ P124 : Option gV → gM → Prop, gC (gr 2 46) yX6_readSide cX6_readSide 3 (some (.int)) [(4, 410), (4, x1), (0, x2)] sh M (gPm sh P124) ∧ ∀ (r124 : Option gV) (M124 : gM), P124 r124 M124 → ∃ v124 : Int, r124 = some (0, v124) ∧ gOK sh M124 ∧
      ((gsh sh x3 = some (0, 5) ∧ x3 < 758) ∧
        (∃ P127 : Option gV → gM → Prop, gC (gr 0 0) yX4_add cX4_add 3 none [(4, x3), (0, x4), (0, v124)] sh M124 (gPm sh P127) ∧ ∀ (r127 : Option gV) (M127 : gM), P127 r127 M127 → r127 = none ∧ gOK sh M127 ∧
          (Q none sh M127)))))) : P_X6_readPair_102 sh Q x1 x2 x3 x4 M := by
  unfold P_X6_readPair_102
  refine g_aload_n (q0 := 103) (j := 3) rfl dX6_readPair_102 rfl ?_
  refine g_iload (q0 := 105) (j := 4) rfl dX6_readPair_103 rfl ?_
  refine g_iload_n (q0 := 106) (j := 2) rfl dX6_readPair_105 rfl ?_
  refine g_bipush (q0 := 108) rfl dX6_readPair_106 (k := ?_)
  refine g_icmp_ne (q0 := 111) (tgt := 121) rfl dX6_readPair_108 (by decide) (fun h108 => ?_) (fun h108 => ?_)
  · replace h := wI_neg h108 h
    refine g_aload_n (q0 := 122) (j := 0) rfl dX6_readPair_121 rfl ?_
    refine g_aload_n (q0 := 123) (j := 1) rfl dX6_readPair_122 rfl ?_
    refine g_iload_n (q0 := 124) (j := 2) rfl dX6_readPair_123 rfl ?_
    obtain ⟨P124, e124, h⟩ := h
    refine g_callVm (as := [_, _]) (rest := [_, _]) mt_X6_readSide mi_X6_readSide se_X6_readSide ml_X6_171 dX6_readPair_124 (q0 := 127) rfl rfl (sh_410 hOK) rfl rfl e124 rfl ⟨by decide, by decide⟩ (Nat.le_of_ble_eq_true rfl) ⟨Nat.zero_le _, Nat.zero_le _⟩ (fun r124 M124 hP124 hw124 hMw124 => ?_)
    obtain ⟨v124, hr124, hOK7, h⟩ := h r124 M124 hP124
    subst hr124
    obtain ⟨g8, h⟩ := h
    obtain ⟨P127, e127, h⟩ := h
    refine g_callVm (as := [_, _]) (rest := []) mt_X4_add mi_X4_add se_X4_add ml_X6_76 dX6_readPair_127 (q0 := 130) rfl rfl g8.1 rfl rfl e127 rfl ⟨by decide, by decide⟩ (Nat.le_of_ble_eq_true rfl) ⟨Nat.zero_le _, Nat.zero_le _⟩ (fun r127 M127 hP127 hw127 hMw127 => ?_)
    obtain ⟨hr127, hOK9, h⟩ := h r127 M127 hP127
    subst hr127
    exact g_return dX6_readPair_130 rfl ⟨Nat.zero_le _, Nat.zero_le _⟩ h
  · replace h := wI_pos h108 h
    refine g_aload_n (q0 := 112) (j := 0) rfl dX6_readPair_111 rfl ?_
    refine g_aload_n (q0 := 113) (j := 1) rfl dX6_readPair_112 rfl ?_
    refine g_iload (q0 := 115) (j := 4) rfl dX6_readPair_113 rfl ?_
    obtain ⟨P115, e115, h⟩ := h
    refine g_callVm (as := [_, _]) (rest := [_, _]) mt_X6_readCommit mi_X6_readCommit se_X6_readCommit ml_X6_167 dX6_readPair_115 (q0 := 118) rfl rfl (sh_410 hOK) rfl rfl e115 rfl ⟨by decide, by decide⟩ (Nat.le_of_ble_eq_true rfl) ⟨Nat.zero_le _, Nat.zero_le _⟩ (fun r115 M115 hP115 hw115 hMw115 => ?_)
    obtain ⟨v115, hr115, hOK10, h⟩ := h r115 M115 hP115
    subst hr115
    refine g_goto (tgt := 127) dX6_readPair_118 (by decide) ?_
    obtain ⟨g11, h⟩ := h
    obtain ⟨P127, e127, h⟩ := h
    refine g_callVm (as := [_, _]) (rest := []) mt_X4_add mi_X4_add se_X4_add ml_X6_76 dX6_readPair_127 (q0 := 130) rfl rfl g11.1 rfl rfl e127 rfl ⟨by decide, by decide⟩ (Nat.le_of_ble_eq_true rfl) ⟨Nat.zero_le _, Nat.zero_le _⟩ (fun r127 M127 hP127 hw127 hMw127 => ?_)
    obtain ⟨hr127, hOK12, h⟩ := h r127 M127 hP127
    subst hr127
    exact g_return dX6_readPair_130 rfl ⟨Nat.zero_le _, Nat.zero_le _⟩ h
theorem w_X6_readPair {sh : gS} {Q : Option gV → gS → gM → Prop} {a1 a2 : Int} {M : gM} (hOK : gOK sh M) (h : (∃ v2 : Int, gC (gr 0 0) yX6_pairsOf cX6_pairsOf 2 (some (.object "CarriedHistory$Pairs")) [(4, 410), (0, a2)] sh M (gPp sh M (4, v2)) ∧
    (if a2 = 7 then
      (∃ P15 : Option gV → gM → Prop, gC (gr 2 46) yX6_readCommit cX6_readCommit 5 (some (.int)) [(4, 410), (4, a1), (0, -1)] sh M (gPm sh P15) ∧ ∀ (r15 : Option gV) (M15 : gM), P15 r15 M15 → ∃ v15 : Int, r15 = some (0, v15) ∧ gOK sh M15 ∧
        (P_X6_readPair_27 sh Q a1 a2 v2 v15 M15))
    else
      (∃ P24 : Option gV → gM → Prop, gC (gr 2 46) yX6_readSide cX6_readSide 3 (some (.int)) [(4, 410), (4, a1), (0, a2)] sh M (gPm sh P24) ∧ ∀ (r24 : Option gV) (M24 : gM), P24 r24 M24 → ∃ v24 : Int, r24 = some (0, v24) ∧ gOK sh M24 ∧
        (P_X6_readPair_27 sh Q a1 a2 v2 v24 M24))))) : gC (gr 3 70) yX6_readPair cX6_readPair 5 none [(4, 410), (4, a1), (0, a2)] sh M Q := by
  refine gC_ofA (lv := [_, _, _, _, _]) (by decide +kernel) (Nat.le_of_ble_eq_true rfl) rfl (fun hMw hav => ?_)
  refine g_aload_n (q0 := 1) (j := 0) rfl dX6_readPair_0 rfl ?_
  refine g_iload_n (q0 := 2) (j := 2) rfl dX6_readPair_1 rfl ?_
  obtain ⟨v2, e2, h⟩ := h
  refine g_callVp (as := [_]) (rest := []) mt_X6_pairsOf mi_X6_pairsOf se_X6_pairsOf ml_X6_72 dX6_readPair_2 (q0 := 5) rfl rfl (sh_410 hOK) rfl rfl e2 rfl ⟨by decide, by decide⟩ (Nat.le_of_ble_eq_true rfl) ⟨Nat.zero_le _, Nat.zero_le _⟩ (fun _ => ?_)
  refine g_astore_n (q0 := 6) (j := 3) (lv2 := [_, _, _, _, _]) rfl dX6_readPair_5 (by decide) rfl rfl ?_
  refine g_iload_n (q0 := 7) (j := 2) rfl dX6_readPair_6 rfl ?_
  refine g_bipush (q0 := 9) rfl dX6_readPair_7 (k := ?_)
  refine g_icmp_ne (q0 := 12) (tgt := 21) rfl dX6_readPair_9 (by decide) (fun h9 => ?_) (fun h9 => ?_)
  · replace h := wI_neg h9 h
    refine g_aload_n (q0 := 22) (j := 0) rfl dX6_readPair_21 rfl ?_
    refine g_aload_n (q0 := 23) (j := 1) rfl dX6_readPair_22 rfl ?_
    refine g_iload_n (q0 := 24) (j := 2) rfl dX6_readPair_23 rfl ?_
    obtain ⟨P24, e24, h⟩ := h
    refine g_callVm (as := [_, _]) (rest := []) mt_X6_readSide mi_X6_readSide se_X6_readSide ml_X6_171 dX6_readPair_24 (q0 := 27) rfl rfl (sh_410 hOK) rfl rfl e24 rfl ⟨by decide, by decide⟩ (Nat.le_of_ble_eq_true rfl) ⟨Nat.zero_le _, Nat.zero_le _⟩ (fun r24 M24 hP24 hw24 hMw24 => ?_)
    obtain ⟨v24, hr24, hOK13, h⟩ := h r24 M24 hP24
    subst hr24
    exact h
  · replace h := wI_pos h9 h
    refine g_aload_n (q0 := 13) (j := 0) rfl dX6_readPair_12 rfl ?_
    refine g_aload_n (q0 := 14) (j := 1) rfl dX6_readPair_13 rfl ?_
    refine g_iconst (q0 := 15) rfl dX6_readPair_14 (k := ?_)
    obtain ⟨P15, e15, h⟩ := h
    refine g_callVm (as := [_, _]) (rest := []) mt_X6_readCommit mi_X6_readCommit se_X6_readCommit ml_X6_167 dX6_readPair_15 (q0 := 18) rfl rfl (sh_410 hOK) rfl rfl e15 rfl ⟨by decide, by decide⟩ (Nat.le_of_ble_eq_true rfl) ⟨Nat.zero_le _, Nat.zero_le _⟩ (fun r15 M15 hP15 hw15 hMw15 => ?_)
    obtain ⟨v15, hr15, hOK14, h⟩ := h r15 M15 hP15
    subst hr15
    refine g_goto (tgt := 27) dX6_readPair_18 (by decide) ?_
    exact h
-- ==== X6_readSide
theorem dX6_readSide_0 : decode cX6_readSide 0 = .ok (.iload_n 2, 1) := by decide +kernel
theorem dX6_readSide_1 : decode cX6_readSide 1 = .ok (.tableswitch 67 4 6 #[27, 54, 62], 27) := by decide +kernel
theorem dX6_readSide_28 : decode cX6_readSide 28 = .ok (.aload_n 1, 1) := by decide +kernel
theorem dX6_readSide_29 : decode cX6_readSide 29 = .ok (.invokevirtual 177, 3) := by decide +kernel
theorem dX6_readSide_32 : decode cX6_readSide 32 = .ok (.bipush 46, 2) := by decide +kernel
theorem dX6_readSide_34 : decode cX6_readSide 34 = .ok (.if_icmp .ne 15, 3) := by decide +kernel
theorem dX6_readSide_37 : decode cX6_readSide 37 = .ok (.aload_n 1, 1) := by decide +kernel
theorem dX6_readSide_38 : decode cX6_readSide 38 = .ok (.dup, 1) := by decide +kernel
theorem dX6_readSide_39 : decode cX6_readSide 39 = .ok (.getfield 51, 3) := by decide +kernel
theorem dX6_readSide_42 : decode cX6_readSide 42 = .ok (.iconst 1, 1) := by decide +kernel
theorem dX6_readSide_43 : decode cX6_readSide 43 = .ok (.iadd, 1) := by decide +kernel
theorem dX6_readSide_44 : decode cX6_readSide 44 = .ok (.putfield 51, 3) := by decide +kernel
theorem dX6_readSide_47 : decode cX6_readSide 47 = .ok (.iconst 0, 1) := by decide +kernel
theorem dX6_readSide_48 : decode cX6_readSide 48 = .ok (.ireturn, 1) := by decide +kernel
theorem dX6_readSide_49 : decode cX6_readSide 49 = .ok (.aload_n 1, 1) := by decide +kernel
theorem dX6_readSide_50 : decode cX6_readSide 50 = .ok (.iconst 4, 1) := by decide +kernel
theorem dX6_readSide_51 : decode cX6_readSide 51 = .ok (.invokevirtual 68, 3) := by decide +kernel
theorem dX6_readSide_54 : decode cX6_readSide 54 = .ok (.ireturn, 1) := by decide +kernel
theorem dX6_readSide_55 : decode cX6_readSide 55 = .ok (.aload_n 1, 1) := by decide +kernel
theorem dX6_readSide_56 : decode cX6_readSide 56 = .ok (.bipush 6, 2) := by decide +kernel
theorem dX6_readSide_58 : decode cX6_readSide 58 = .ok (.iconst 1, 1) := by decide +kernel
theorem dX6_readSide_59 : decode cX6_readSide 59 = .ok (.invokevirtual 180, 3) := by decide +kernel
theorem dX6_readSide_62 : decode cX6_readSide 62 = .ok (.ireturn, 1) := by decide +kernel
theorem dX6_readSide_63 : decode cX6_readSide 63 = .ok (.aload_n 1, 1) := by decide +kernel
theorem dX6_readSide_64 : decode cX6_readSide 64 = .ok (.invokevirtual 184, 3) := by decide +kernel
theorem dX6_readSide_67 : decode cX6_readSide 67 = .ok (.ireturn, 1) := by decide +kernel
theorem dX6_readSide_68 : decode cX6_readSide 68 = .ok (.aload_n 1, 1) := by decide +kernel
theorem dX6_readSide_69 : decode cX6_readSide 69 = .ok (.iconst 0, 1) := by decide +kernel
theorem dX6_readSide_70 : decode cX6_readSide 70 = .ok (.bipush 9, 2) := by decide +kernel
theorem dX6_readSide_72 : decode cX6_readSide 72 = .ok (.invokevirtual 186, 3) := by decide +kernel
theorem dX6_readSide_75 : decode cX6_readSide 75 = .ok (.ireturn, 1) := by decide +kernel
theorem w_X6_readSide {sh : gS} {Q : Option gV → gS → gM → Prop} {a1 a2 : Int} {M : gM} (hOK : gOK sh M) (h : (if a2 = 4 then
    ((gsh sh a1 = some (0, 10) ∧ a1 < 758) ∧
      (∃ v29 : Int, gC (gr 0 0) yX9_next cX9_next 1 (some (.int)) [(4, a1)] sh M (gPp sh M (0, v29)) ∧
        (if v29 = 46 then
          (Q (some (0, 0)) sh (gU M a1 2 (gw32 ((M a1 2) + (1 : Int)))))
        else
          (∃ P51 : Option gV → gM → Prop, gC (gr 1 22) yX9_path cX9_path 4 (some (.int)) [(4, a1), (0, 4)] sh M (gPm sh P51) ∧ ∀ (r51 : Option gV) (M51 : gM), P51 r51 M51 → ∃ v51 : Int, r51 = some (0, v51) ∧ gOK sh M51 ∧
            (Q (some (0, v51)) sh M51)))))
  else
    (if a2 = 5 then
      ((gsh sh a1 = some (0, 10) ∧ a1 < 758) ∧
        (∃ P59 : Option gV → gM → Prop, gC (gr 1 22) yX9_digits cX9_digits 5 (some (.int)) [(4, a1), (0, 6), (0, 1)] sh M (gPm sh P59) ∧ ∀ (r59 : Option gV) (M59 : gM), P59 r59 M59 → ∃ v59 : Int, r59 = some (0, v59) ∧ gOK sh M59 ∧
          (Q (some (0, v59)) sh M59)))
    else
      (if a2 = 6 then
        ((gsh sh a1 = some (0, 10) ∧ a1 < 758) ∧
          (∃ P64 : Option gV → gM → Prop, gC (gr 1 22) yX9_word cX9_word 3 (some (.int)) [(4, a1)] sh M (gPm sh P64) ∧ ∀ (r64 : Option gV) (M64 : gM), P64 r64 M64 → ∃ v64 : Int, r64 = some (0, v64) ∧ gOK sh M64 ∧
            (Q (some (0, v64)) sh M64)))
      else
        ((gsh sh a1 = some (0, 10) ∧ a1 < 758) ∧
          (∃ P72 : Option gV → gM → Prop, gC (gr 1 22) yX9_digit cX9_digit 4 (some (.int)) [(4, a1), (0, 0), (0, 9)] sh M (gPm sh P72) ∧ ∀ (r72 : Option gV) (M72 : gM), P72 r72 M72 → ∃ v72 : Int, r72 = some (0, v72) ∧ gOK sh M72 ∧
            (Q (some (0, v72)) sh M72))))))) : gC (gr 2 46) yX6_readSide cX6_readSide 3 (some (.int)) [(4, 410), (4, a1), (0, a2)] sh M Q := by
  refine gC_ofA (lv := [_, _, _]) (by decide +kernel) (Nat.le_of_ble_eq_true rfl) rfl (fun hMw hav => ?_)
  refine g_iload_n (q0 := 1) (j := 2) rfl dX6_readSide_0 rfl ?_
  by_cases hs0 : a2 = 4
  · replace h := wI_pos hs0 h
    refine g_tabIn (off := 27) (tgt := 28) dX6_readSide_1 (by omega) (by omega) (by rw [hs0]; rfl) (by decide) ?_
    refine g_aload_n (q0 := 29) (j := 1) rfl dX6_readSide_28 rfl ?_
    obtain ⟨g7, h⟩ := h
    obtain ⟨v29, e29, h⟩ := h
    refine g_callVp (as := []) (rest := []) mt_X9_next mi_X9_next se_X9_next ml_X6_177 dX6_readSide_29 (q0 := 32) rfl rfl g7.1 rfl rfl e29 rfl ⟨by decide, by decide⟩ (Nat.le_of_ble_eq_true rfl) ⟨Nat.zero_le _, Nat.zero_le _⟩ (fun _ => ?_)
    refine g_bipush (q0 := 34) rfl dX6_readSide_32 (k := ?_)
    refine g_icmp_ne (q0 := 37) (tgt := 49) rfl dX6_readSide_34 (by decide) (fun h34 => ?_) (fun h34 => ?_)
    · replace h := wI_neg h34 h
      refine g_aload_n (q0 := 50) (j := 1) rfl dX6_readSide_49 rfl ?_
      refine g_iconst (q0 := 51) rfl dX6_readSide_50 (k := ?_)
      obtain ⟨P51, e51, h⟩ := h
      refine g_callVm (as := [_]) (rest := []) mt_X9_path mi_X9_path se_X9_path ml_X6_68 dX6_readSide_51 (q0 := 54) rfl rfl g7.1 rfl rfl e51 rfl ⟨by decide, by decide⟩ (Nat.le_of_ble_eq_true rfl) ⟨Nat.zero_le _, Nat.zero_le _⟩ (fun r51 M51 hP51 hw51 hMw51 => ?_)
      obtain ⟨v51, hr51, hOK8, h⟩ := h r51 M51 hP51
      subst hr51
      exact g_ireturn dX6_readSide_54 rfl ⟨Nat.zero_le _, Nat.zero_le _⟩ h
    · replace h := wI_pos h34 h
      refine g_aload_n (q0 := 38) (j := 1) rfl dX6_readSide_37 rfl ?_
      refine g_dup (q0 := 39) rfl dX6_readSide_38 (k := ?_)
      refine g_getf (q0 := 42) (t := 0) (fi := 2) rfl rfl ff_X6_51 dX6_readSide_39 rfl g7.1 ?_
      refine g_iconst (q0 := 43) rfl dX6_readSide_42 (k := ?_)
      refine g_iaddw (q0 := 44) rfl dX6_readSide_43 ?_
      refine g_put (q0 := 47) (t := 0) (fi := 2) rfl rfl ff_X6_51 dX6_readSide_44 rfl g7.1 rfl (fun _ => ⟨rfl, rfl⟩) ?_
      have hOK9 : gOK sh (gU M a1 2 (gw32 ((M a1 2) + (1 : Int)))) := gOK_o hOK g7.1 (f := 2) rfl rfl
      refine g_iconst (q0 := 48) rfl dX6_readSide_47 (k := ?_)
      exact g_ireturn dX6_readSide_48 rfl ⟨Nat.zero_le _, Nat.zero_le _⟩ h
  · replace h := wI_neg hs0 h
    by_cases hs1 : a2 = 5
    · replace h := wI_pos hs1 h
      refine g_tabIn (off := 54) (tgt := 55) dX6_readSide_1 (by omega) (by omega) (by rw [hs1]; rfl) (by decide) ?_
      refine g_aload_n (q0 := 56) (j := 1) rfl dX6_readSide_55 rfl ?_
      refine g_bipush (q0 := 58) rfl dX6_readSide_56 (k := ?_)
      refine g_iconst (q0 := 59) rfl dX6_readSide_58 (k := ?_)
      obtain ⟨g5, h⟩ := h
      obtain ⟨P59, e59, h⟩ := h
      refine g_callVm (as := [_, _]) (rest := []) mt_X9_digits mi_X9_digits se_X9_digits ml_X6_180 dX6_readSide_59 (q0 := 62) rfl rfl g5.1 rfl rfl e59 rfl ⟨by decide, by decide⟩ (Nat.le_of_ble_eq_true rfl) ⟨Nat.zero_le _, Nat.zero_le _⟩ (fun r59 M59 hP59 hw59 hMw59 => ?_)
      obtain ⟨v59, hr59, hOK6, h⟩ := h r59 M59 hP59
      subst hr59
      exact g_ireturn dX6_readSide_62 rfl ⟨Nat.zero_le _, Nat.zero_le _⟩ h
    · replace h := wI_neg hs1 h
      by_cases hs2 : a2 = 6
      · replace h := wI_pos hs2 h
        refine g_tabIn (off := 62) (tgt := 63) dX6_readSide_1 (by omega) (by omega) (by rw [hs2]; rfl) (by decide) ?_
        refine g_aload_n (q0 := 64) (j := 1) rfl dX6_readSide_63 rfl ?_
        obtain ⟨g3, h⟩ := h
        obtain ⟨P64, e64, h⟩ := h
        refine g_callVm (as := []) (rest := []) mt_X9_word mi_X9_word se_X9_word ml_X6_184 dX6_readSide_64 (q0 := 67) rfl rfl g3.1 rfl rfl e64 rfl ⟨by decide, by decide⟩ (Nat.le_of_ble_eq_true rfl) ⟨Nat.zero_le _, Nat.zero_le _⟩ (fun r64 M64 hP64 hw64 hMw64 => ?_)
        obtain ⟨v64, hr64, hOK4, h⟩ := h r64 M64 hP64
        subst hr64
        exact g_ireturn dX6_readSide_67 rfl ⟨Nat.zero_le _, Nat.zero_le _⟩ h
      · replace h := wI_neg hs2 h
        refine g_tabOut (tgt := 68) dX6_readSide_1 (by omega) (by decide) ?_
        refine g_aload_n (q0 := 69) (j := 1) rfl dX6_readSide_68 rfl ?_
        refine g_iconst (q0 := 70) rfl dX6_readSide_69 (k := ?_)
        refine g_bipush (q0 := 72) rfl dX6_readSide_70 (k := ?_)
        obtain ⟨g1, h⟩ := h
        obtain ⟨P72, e72, h⟩ := h
        refine g_callVm (as := [_, _]) (rest := []) mt_X9_digit mi_X9_digit se_X9_digit ml_X6_186 dX6_readSide_72 (q0 := 75) rfl rfl g1.1 rfl rfl e72 rfl ⟨by decide, by decide⟩ (Nat.le_of_ble_eq_true rfl) ⟨Nat.zero_le _, Nat.zero_le _⟩ (fun r72 M72 hP72 hw72 hMw72 => ?_)
        obtain ⟨v72, hr72, hOK2, h⟩ := h r72 M72 hP72
        subst hr72
        exact g_ireturn dX6_readSide_75 rfl ⟨Nat.zero_le _, Nat.zero_le _⟩ h
-- ==== X6_readCommit
theorem dX6_readCommit_0 : decode cX6_readCommit 0 = .ok (.aload_n 1, 1) := by decide +kernel
theorem dX6_readCommit_1 : decode cX6_readCommit 1 = .ok (.getfield 51, 3) := by decide +kernel
theorem dX6_readCommit_4 : decode cX6_readCommit 4 = .ok (.istore_n 3, 1) := by decide +kernel
theorem dX6_readCommit_5 : decode cX6_readCommit 5 = .ok (.aload_n 1, 1) := by decide +kernel
theorem dX6_readCommit_6 : decode cX6_readCommit 6 = .ok (.iconst 3, 1) := by decide +kernel
theorem dX6_readCommit_7 : decode cX6_readCommit 7 = .ok (.iconst 0, 1) := by decide +kernel
theorem dX6_readCommit_8 : decode cX6_readCommit 8 = .ok (.invokevirtual 180, 3) := by decide +kernel
theorem dX6_readCommit_11 : decode cX6_readCommit 11 = .ok (.istore 4, 2) := by decide +kernel
theorem dX6_readCommit_13 : decode cX6_readCommit 13 = .ok (.iload 4, 2) := by decide +kernel
theorem dX6_readCommit_15 : decode cX6_readCommit 15 = .ok (.aload_n 0, 1) := by decide +kernel
theorem dX6_readCommit_16 : decode cX6_readCommit 16 = .ok (.getfield 18, 3) := by decide +kernel
theorem dX6_readCommit_19 : decode cX6_readCommit 19 = .ok (.if_icmp .lt 13, 3) := by decide +kernel
theorem dX6_readCommit_22 : decode cX6_readCommit 22 = .ok (.aload_n 1, 1) := by decide +kernel
theorem dX6_readCommit_23 : decode cX6_readCommit 23 = .ok (.bipush 9, 2) := by decide +kernel
theorem dX6_readCommit_25 : decode cX6_readCommit 25 = .ok (.iload_n 3, 1) := by decide +kernel
theorem dX6_readCommit_26 : decode cX6_readCommit 26 = .ok (.invokevirtual 61, 3) := by decide +kernel
theorem dX6_readCommit_29 : decode cX6_readCommit 29 = .ok (.goto 20, 3) := by decide +kernel
theorem dX6_readCommit_32 : decode cX6_readCommit 32 = .ok (.iload_n 2, 1) := by decide +kernel
theorem dX6_readCommit_33 : decode cX6_readCommit 33 = .ok (.ifCond .lt 16, 3) := by decide +kernel
theorem dX6_readCommit_36 : decode cX6_readCommit 36 = .ok (.iload 4, 2) := by decide +kernel
theorem dX6_readCommit_38 : decode cX6_readCommit 38 = .ok (.iload_n 2, 1) := by decide +kernel
theorem dX6_readCommit_39 : decode cX6_readCommit 39 = .ok (.if_icmp .lt 10, 3) := by decide +kernel
theorem dX6_readCommit_42 : decode cX6_readCommit 42 = .ok (.aload_n 1, 1) := by decide +kernel
theorem dX6_readCommit_43 : decode cX6_readCommit 43 = .ok (.bipush 7, 2) := by decide +kernel
theorem dX6_readCommit_45 : decode cX6_readCommit 45 = .ok (.iload_n 3, 1) := by decide +kernel
theorem dX6_readCommit_46 : decode cX6_readCommit 46 = .ok (.invokevirtual 61, 3) := by decide +kernel
theorem dX6_readCommit_49 : decode cX6_readCommit 49 = .ok (.iload 4, 2) := by decide +kernel
theorem dX6_readCommit_51 : decode cX6_readCommit 51 = .ok (.ireturn, 1) := by decide +kernel
theorem w_X6_readCommit {sh : gS} {Q : Option gV → gS → gM → Prop} {a1 a2 : Int} {M : gM} (hOK : gOK sh M) (h : ((gsh sh a1 = some (0, 10) ∧ a1 < 758) ∧
    (∃ P8 : Option gV → gM → Prop, gC (gr 1 22) yX9_digits cX9_digits 5 (some (.int)) [(4, a1), (0, 3), (0, 0)] sh M (gPm sh P8) ∧ ∀ (r8 : Option gV) (M8 : gM), P8 r8 M8 → ∃ v8 : Int, r8 = some (0, v8) ∧ gOK sh M8 ∧
      (if v8 < (M8 410 1) then
        (if a2 < 0 then
          (Q (some (0, v8)) sh M8)
        else
          (if v8 < a2 then
            (Q (some (0, v8)) sh M8)
          else
            (∃ P46 : Option gV → gM → Prop, gC (gr 0 0) yX9_fail cX9_fail 3 none [(4, a1), (0, 7), (0, (M a1 2))] sh M8 (gPm sh P46) ∧ ∀ (r46 : Option gV) (M46 : gM), P46 r46 M46 → r46 = none ∧ gOK sh M46 ∧
              (Q (some (0, v8)) sh M46))))
      else
        (∃ P26 : Option gV → gM → Prop, gC (gr 0 0) yX9_fail cX9_fail 3 none [(4, a1), (0, 9), (0, (M a1 2))] sh M8 (gPm sh P26) ∧ ∀ (r26 : Option gV) (M26 : gM), P26 r26 M26 → r26 = none ∧ gOK sh M26 ∧
          (Q (some (0, v8)) sh M26)))))) : gC (gr 2 46) yX6_readCommit cX6_readCommit 5 (some (.int)) [(4, 410), (4, a1), (0, a2)] sh M Q := by
  refine gC_ofA (lv := [_, _, _, _, _]) (by decide +kernel) (Nat.le_of_ble_eq_true rfl) rfl (fun hMw hav => ?_)
  refine g_aload_n (q0 := 1) (j := 1) rfl dX6_readCommit_0 rfl ?_
  obtain ⟨g1, h⟩ := h
  refine g_getf (q0 := 4) (t := 0) (fi := 2) rfl rfl ff_X6_51 dX6_readCommit_1 rfl g1.1 ?_
  refine g_istore_n (q0 := 5) (j := 3) (lv2 := [_, _, _, _, _]) rfl dX6_readCommit_4 (by decide) rfl rfl ?_
  refine g_aload_n (q0 := 6) (j := 1) rfl dX6_readCommit_5 rfl ?_
  refine g_iconst (q0 := 7) rfl dX6_readCommit_6 (k := ?_)
  refine g_iconst (q0 := 8) rfl dX6_readCommit_7 (k := ?_)
  obtain ⟨P8, e8, h⟩ := h
  refine g_callVm (as := [_, _]) (rest := []) mt_X9_digits mi_X9_digits se_X9_digits ml_X6_180 dX6_readCommit_8 (q0 := 11) rfl rfl g1.1 rfl rfl e8 rfl ⟨by decide, by decide⟩ (Nat.le_of_ble_eq_true rfl) ⟨Nat.zero_le _, Nat.zero_le _⟩ (fun r8 M8 hP8 hw8 hMw8 => ?_)
  obtain ⟨v8, hr8, hOK2, h⟩ := h r8 M8 hP8
  subst hr8
  refine g_istore (q0 := 13) (j := 4) (lv2 := [_, _, _, _, _]) rfl dX6_readCommit_11 (by decide) rfl rfl ?_
  refine g_iload (q0 := 15) (j := 4) rfl dX6_readCommit_13 rfl ?_
  refine g_aload_n (q0 := 16) (j := 0) rfl dX6_readCommit_15 rfl ?_
  refine g_getf (q0 := 19) (t := 0) (fi := 1) rfl rfl ff_X6_18 dX6_readCommit_16 rfl (sh_410 hOK2) ?_
  refine g_icmp_lt (q0 := 22) (tgt := 32) rfl dX6_readCommit_19 (by decide) (fun h19 => ?_) (fun h19 => ?_)
  · replace h := wI_pos h19 h
    refine g_iload_n (q0 := 33) (j := 2) rfl dX6_readCommit_32 rfl ?_
    refine g_if_lt (q0 := 36) (tgt := 49) rfl dX6_readCommit_33 (by decide) (fun h33 => ?_) (fun h33 => ?_)
    · replace h := wI_pos h33 h
      refine g_iload (q0 := 51) (j := 4) rfl dX6_readCommit_49 rfl ?_
      exact g_ireturn dX6_readCommit_51 rfl ⟨Nat.zero_le _, Nat.zero_le _⟩ h
    · replace h := wI_neg (Int.not_lt.mpr h33) h
      refine g_iload (q0 := 38) (j := 4) rfl dX6_readCommit_36 rfl ?_
      refine g_iload_n (q0 := 39) (j := 2) rfl dX6_readCommit_38 rfl ?_
      refine g_icmp_lt (q0 := 42) (tgt := 49) rfl dX6_readCommit_39 (by decide) (fun h39 => ?_) (fun h39 => ?_)
      · replace h := wI_pos h39 h
        refine g_iload (q0 := 51) (j := 4) rfl dX6_readCommit_49 rfl ?_
        exact g_ireturn dX6_readCommit_51 rfl ⟨Nat.zero_le _, Nat.zero_le _⟩ h
      · replace h := wI_neg (Int.not_lt.mpr h39) h
        refine g_aload_n (q0 := 43) (j := 1) rfl dX6_readCommit_42 rfl ?_
        refine g_bipush (q0 := 45) rfl dX6_readCommit_43 (k := ?_)
        refine g_iload_n (q0 := 46) (j := 3) rfl dX6_readCommit_45 rfl ?_
        obtain ⟨P46, e46, h⟩ := h
        refine g_callVm (as := [_, _]) (rest := []) mt_X9_fail mi_X9_fail se_X9_fail ml_X6_61 dX6_readCommit_46 (q0 := 49) rfl rfl g1.1 rfl rfl e46 rfl ⟨by decide, by decide⟩ (Nat.le_of_ble_eq_true rfl) ⟨Nat.zero_le _, Nat.zero_le _⟩ (fun r46 M46 hP46 hw46 hMw46 => ?_)
        obtain ⟨hr46, hOK3, h⟩ := h r46 M46 hP46
        subst hr46
        refine g_iload (q0 := 51) (j := 4) rfl dX6_readCommit_49 rfl ?_
        exact g_ireturn dX6_readCommit_51 rfl ⟨Nat.zero_le _, Nat.zero_le _⟩ h
  · replace h := wI_neg (Int.not_lt.mpr h19) h
    refine g_aload_n (q0 := 23) (j := 1) rfl dX6_readCommit_22 rfl ?_
    refine g_bipush (q0 := 25) rfl dX6_readCommit_23 (k := ?_)
    refine g_iload_n (q0 := 26) (j := 3) rfl dX6_readCommit_25 rfl ?_
    obtain ⟨P26, e26, h⟩ := h
    refine g_callVm (as := [_, _]) (rest := []) mt_X9_fail mi_X9_fail se_X9_fail ml_X6_61 dX6_readCommit_26 (q0 := 29) rfl rfl g1.1 rfl rfl e26 rfl ⟨by decide, by decide⟩ (Nat.le_of_ble_eq_true rfl) ⟨Nat.zero_le _, Nat.zero_le _⟩ (fun r26 M26 hP26 hw26 hMw26 => ?_)
    obtain ⟨hr26, hOK4, h⟩ := h r26 M26 hP26
    subst hr26
    refine g_goto (tgt := 49) dX6_readCommit_29 (by decide) ?_
    refine g_iload (q0 := 51) (j := 4) rfl dX6_readCommit_49 rfl ?_
    exact g_ireturn dX6_readCommit_51 rfl ⟨Nat.zero_le _, Nat.zero_le _⟩ h
-- ==== X6_readSetting
theorem dX6_readSetting_0 : decode cX6_readSetting 0 = .ok (.iload_n 2, 1) := by decide +kernel
theorem dX6_readSetting_1 : decode cX6_readSetting 1 = .ok (.tableswitch 193 0 13 #[71, 87, 193, 193, 193, 193, 193, 193, 193, 95, 129, 145, 161, 177], 71) := by decide +kernel
theorem dX6_readSetting_72 : decode cX6_readSetting 72 = .ok (.aload_n 0, 1) := by decide +kernel
theorem dX6_readSetting_73 : decode cX6_readSetting 73 = .ok (.getfield 12, 3) := by decide +kernel
theorem dX6_readSetting_76 : decode cX6_readSetting 76 = .ok (.aload_n 1, 1) := by decide +kernel
theorem dX6_readSetting_77 : decode cX6_readSetting 77 = .ok (.iconst 0, 1) := by decide +kernel
theorem dX6_readSetting_78 : decode cX6_readSetting 78 = .ok (.iconst 3, 1) := by decide +kernel
theorem dX6_readSetting_79 : decode cX6_readSetting 79 = .ok (.invokevirtual 186, 3) := by decide +kernel
theorem dX6_readSetting_82 : decode cX6_readSetting 82 = .ok (.putfield 189, 3) := by decide +kernel
theorem dX6_readSetting_85 : decode cX6_readSetting 85 = .ok (.goto 123, 3) := by decide +kernel
theorem dX6_readSetting_88 : decode cX6_readSetting 88 = .ok (.aload_n 0, 1) := by decide +kernel
theorem dX6_readSetting_89 : decode cX6_readSetting 89 = .ok (.aload_n 1, 1) := by decide +kernel
theorem dX6_readSetting_90 : decode cX6_readSetting 90 = .ok (.invokevirtual 191, 3) := by decide +kernel
theorem dX6_readSetting_93 : decode cX6_readSetting 93 = .ok (.goto 115, 3) := by decide +kernel
theorem dX6_readSetting_96 : decode cX6_readSetting 96 = .ok (.aload_n 1, 1) := by decide +kernel
theorem dX6_readSetting_97 : decode cX6_readSetting 97 = .ok (.iconst 0, 1) := by decide +kernel
theorem dX6_readSetting_98 : decode cX6_readSetting 98 = .ok (.bipush 9, 2) := by decide +kernel
theorem dX6_readSetting_100 : decode cX6_readSetting 100 = .ok (.invokevirtual 186, 3) := by decide +kernel
theorem dX6_readSetting_103 : decode cX6_readSetting 103 = .ok (.istore_n 3, 1) := by decide +kernel
theorem dX6_readSetting_104 : decode cX6_readSetting 104 = .ok (.aload_n 0, 1) := by decide +kernel
theorem dX6_readSetting_105 : decode cX6_readSetting 105 = .ok (.getfield 12, 3) := by decide +kernel
theorem dX6_readSetting_108 : decode cX6_readSetting 108 = .ok (.dup, 1) := by decide +kernel
theorem dX6_readSetting_109 : decode cX6_readSetting 109 = .ok (.getfield 194, 3) := by decide +kernel
theorem dX6_readSetting_112 : decode cX6_readSetting 112 = .ok (.iload_n 3, 1) := by decide +kernel
theorem dX6_readSetting_113 : decode cX6_readSetting 113 = .ok (.ifCond .ge 7, 3) := by decide +kernel
theorem dX6_readSetting_116 : decode cX6_readSetting 116 = .ok (.iconst 0, 1) := by decide +kernel
theorem dX6_readSetting_117 : decode cX6_readSetting 117 = .ok (.goto 6, 3) := by decide +kernel
theorem dX6_readSetting_120 : decode cX6_readSetting 120 = .ok (.iconst 1, 1) := by decide +kernel
theorem dX6_readSetting_121 : decode cX6_readSetting 121 = .ok (.iload_n 3, 1) := by decide +kernel
theorem dX6_readSetting_122 : decode cX6_readSetting 122 = .ok (.ishl, 1) := by decide +kernel
theorem dX6_readSetting_123 : decode cX6_readSetting 123 = .ok (.ior, 1) := by decide +kernel
theorem dX6_readSetting_124 : decode cX6_readSetting 124 = .ok (.putfield 194, 3) := by decide +kernel
theorem dX6_readSetting_127 : decode cX6_readSetting 127 = .ok (.goto 81, 3) := by decide +kernel
theorem dX6_readSetting_130 : decode cX6_readSetting 130 = .ok (.aload_n 0, 1) := by decide +kernel
theorem dX6_readSetting_131 : decode cX6_readSetting 131 = .ok (.getfield 12, 3) := by decide +kernel
theorem dX6_readSetting_134 : decode cX6_readSetting 134 = .ok (.aload_n 1, 1) := by decide +kernel
theorem dX6_readSetting_135 : decode cX6_readSetting 135 = .ok (.iconst 0, 1) := by decide +kernel
theorem dX6_readSetting_136 : decode cX6_readSetting 136 = .ok (.iconst 3, 1) := by decide +kernel
theorem dX6_readSetting_137 : decode cX6_readSetting 137 = .ok (.invokevirtual 186, 3) := by decide +kernel
theorem dX6_readSetting_140 : decode cX6_readSetting 140 = .ok (.putfield 197, 3) := by decide +kernel
theorem dX6_readSetting_143 : decode cX6_readSetting 143 = .ok (.goto 65, 3) := by decide +kernel
theorem dX6_readSetting_146 : decode cX6_readSetting 146 = .ok (.aload_n 0, 1) := by decide +kernel
theorem dX6_readSetting_147 : decode cX6_readSetting 147 = .ok (.getfield 12, 3) := by decide +kernel
theorem dX6_readSetting_150 : decode cX6_readSetting 150 = .ok (.aload_n 1, 1) := by decide +kernel
theorem dX6_readSetting_151 : decode cX6_readSetting 151 = .ok (.iconst 0, 1) := by decide +kernel
theorem dX6_readSetting_152 : decode cX6_readSetting 152 = .ok (.iconst 2, 1) := by decide +kernel
theorem dX6_readSetting_153 : decode cX6_readSetting 153 = .ok (.invokevirtual 186, 3) := by decide +kernel
theorem dX6_readSetting_156 : decode cX6_readSetting 156 = .ok (.putfield 199, 3) := by decide +kernel
theorem dX6_readSetting_159 : decode cX6_readSetting 159 = .ok (.goto 49, 3) := by decide +kernel
theorem dX6_readSetting_162 : decode cX6_readSetting 162 = .ok (.aload_n 0, 1) := by decide +kernel
theorem dX6_readSetting_163 : decode cX6_readSetting 163 = .ok (.getfield 12, 3) := by decide +kernel
theorem dX6_readSetting_166 : decode cX6_readSetting 166 = .ok (.aload_n 1, 1) := by decide +kernel
theorem dX6_readSetting_167 : decode cX6_readSetting 167 = .ok (.iconst 0, 1) := by decide +kernel
theorem dX6_readSetting_168 : decode cX6_readSetting 168 = .ok (.iconst 2, 1) := by decide +kernel
theorem dX6_readSetting_169 : decode cX6_readSetting 169 = .ok (.invokevirtual 186, 3) := by decide +kernel
theorem dX6_readSetting_172 : decode cX6_readSetting 172 = .ok (.putfield 201, 3) := by decide +kernel
theorem dX6_readSetting_175 : decode cX6_readSetting 175 = .ok (.goto 33, 3) := by decide +kernel
theorem dX6_readSetting_178 : decode cX6_readSetting 178 = .ok (.aload_n 0, 1) := by decide +kernel
theorem dX6_readSetting_179 : decode cX6_readSetting 179 = .ok (.getfield 12, 3) := by decide +kernel
theorem dX6_readSetting_182 : decode cX6_readSetting 182 = .ok (.aload_n 1, 1) := by decide +kernel
theorem dX6_readSetting_183 : decode cX6_readSetting 183 = .ok (.iconst 3, 1) := by decide +kernel
theorem dX6_readSetting_184 : decode cX6_readSetting 184 = .ok (.iconst 0, 1) := by decide +kernel
theorem dX6_readSetting_185 : decode cX6_readSetting 185 = .ok (.invokevirtual 180, 3) := by decide +kernel
theorem dX6_readSetting_188 : decode cX6_readSetting 188 = .ok (.putfield 203, 3) := by decide +kernel
theorem dX6_readSetting_191 : decode cX6_readSetting 191 = .ok (.goto 17, 3) := by decide +kernel
theorem dX6_readSetting_194 : decode cX6_readSetting 194 = .ok (.aload_n 0, 1) := by decide +kernel
theorem dX6_readSetting_195 : decode cX6_readSetting 195 = .ok (.getfield 12, 3) := by decide +kernel
theorem dX6_readSetting_198 : decode cX6_readSetting 198 = .ok (.aload_n 1, 1) := by decide +kernel
theorem dX6_readSetting_199 : decode cX6_readSetting 199 = .ok (.iconst 1, 1) := by decide +kernel
theorem dX6_readSetting_200 : decode cX6_readSetting 200 = .ok (.bipush 6, 2) := by decide +kernel
theorem dX6_readSetting_202 : decode cX6_readSetting 202 = .ok (.invokevirtual 186, 3) := by decide +kernel
theorem dX6_readSetting_205 : decode cX6_readSetting 205 = .ok (.putfield 205, 3) := by decide +kernel
theorem dX6_readSetting_208 : decode cX6_readSetting 208 = .ok (.return_, 1) := by decide +kernel
theorem w_X6_readSetting {sh : gS} {Q : Option gV → gS → gM → Prop} {a1 a2 : Int} {M : gM} (hOK : gOK sh M) (h : (if a2 = 0 then
    ((gsh sh a1 = some (0, 10) ∧ a1 < 758) ∧
      (∃ P79 : Option gV → gM → Prop, gC (gr 1 22) yX9_digit cX9_digit 4 (some (.int)) [(4, a1), (0, 0), (0, 3)] sh M (gPm sh P79) ∧ ∀ (r79 : Option gV) (M79 : gM), P79 r79 M79 → ∃ v79 : Int, r79 = some (0, v79) ∧ gOK sh M79 ∧
        (Q none sh (gU M79 411 2 v79))))
  else
    (if a2 = 1 then
      (∃ P90 : Option gV → gM → Prop, gC (gr 2 45) yX6_readTo cX6_readTo 3 none [(4, 410), (4, a1)] sh M (gPm sh P90) ∧ ∀ (r90 : Option gV) (M90 : gM), P90 r90 M90 → r90 = none ∧ gOK sh M90 ∧
        (Q none sh M90))
    else
      (if a2 = 2 then
        ((gsh sh a1 = some (0, 10) ∧ a1 < 758) ∧
          (∃ P202 : Option gV → gM → Prop, gC (gr 1 22) yX9_digit cX9_digit 4 (some (.int)) [(4, a1), (0, 1), (0, 6)] sh M (gPm sh P202) ∧ ∀ (r202 : Option gV) (M202 : gM), P202 r202 M202 → ∃ v202 : Int, r202 = some (0, v202) ∧ gOK sh M202 ∧
            (Q none sh (gU M202 411 16 v202))))
      else
        (if a2 = 3 then
          ((gsh sh a1 = some (0, 10) ∧ a1 < 758) ∧
            (∃ P202 : Option gV → gM → Prop, gC (gr 1 22) yX9_digit cX9_digit 4 (some (.int)) [(4, a1), (0, 1), (0, 6)] sh M (gPm sh P202) ∧ ∀ (r202 : Option gV) (M202 : gM), P202 r202 M202 → ∃ v202 : Int, r202 = some (0, v202) ∧ gOK sh M202 ∧
              (Q none sh (gU M202 411 16 v202))))
        else
          (if a2 = 4 then
            ((gsh sh a1 = some (0, 10) ∧ a1 < 758) ∧
              (∃ P202 : Option gV → gM → Prop, gC (gr 1 22) yX9_digit cX9_digit 4 (some (.int)) [(4, a1), (0, 1), (0, 6)] sh M (gPm sh P202) ∧ ∀ (r202 : Option gV) (M202 : gM), P202 r202 M202 → ∃ v202 : Int, r202 = some (0, v202) ∧ gOK sh M202 ∧
                (Q none sh (gU M202 411 16 v202))))
          else
            (if a2 = 5 then
              ((gsh sh a1 = some (0, 10) ∧ a1 < 758) ∧
                (∃ P202 : Option gV → gM → Prop, gC (gr 1 22) yX9_digit cX9_digit 4 (some (.int)) [(4, a1), (0, 1), (0, 6)] sh M (gPm sh P202) ∧ ∀ (r202 : Option gV) (M202 : gM), P202 r202 M202 → ∃ v202 : Int, r202 = some (0, v202) ∧ gOK sh M202 ∧
                  (Q none sh (gU M202 411 16 v202))))
            else
              (if a2 = 6 then
                ((gsh sh a1 = some (0, 10) ∧ a1 < 758) ∧
                  (∃ P202 : Option gV → gM → Prop, gC (gr 1 22) yX9_digit cX9_digit 4 (some (.int)) [(4, a1), (0, 1), (0, 6)] sh M (gPm sh P202) ∧ ∀ (r202 : Option gV) (M202 : gM), P202 r202 M202 → ∃ v202 : Int, r202 = some (0, v202) ∧ gOK sh M202 ∧
                    (Q none sh (gU M202 411 16 v202))))
              else
                (if a2 = 7 then
                  ((gsh sh a1 = some (0, 10) ∧ a1 < 758) ∧
                    (∃ P202 : Option gV → gM → Prop, gC (gr 1 22) yX9_digit cX9_digit 4 (some (.int)) [(4, a1), (0, 1), (0, 6)] sh M (gPm sh P202) ∧ ∀ (r202 : Option gV) (M202 : gM), P202 r202 M202 → ∃ v202 : Int, r202 = some (0, v202) ∧ gOK sh M202 ∧
                      (Q none sh (gU M202 411 16 v202))))
                else
                  (if a2 = 8 then
                    ((gsh sh a1 = some (0, 10) ∧ a1 < 758) ∧
                      (∃ P202 : Option gV → gM → Prop, gC (gr 1 22) yX9_digit cX9_digit 4 (some (.int)) [(4, a1), (0, 1), (0, 6)] sh M (gPm sh P202) ∧ ∀ (r202 : Option gV) (M202 : gM), P202 r202 M202 → ∃ v202 : Int, r202 = some (0, v202) ∧ gOK sh M202 ∧
                        (Q none sh (gU M202 411 16 v202))))
                  else
                    (if a2 = 9 then
                      ((gsh sh a1 = some (0, 10) ∧ a1 < 758) ∧
                        (∃ P100 : Option gV → gM → Prop, gC (gr 1 22) yX9_digit cX9_digit 4 (some (.int)) [(4, a1), (0, 0), (0, 9)] sh M (gPm sh P100) ∧ ∀ (r100 : Option gV) (M100 : gM), P100 r100 M100 → ∃ v100 : Int, r100 = some (0, v100) ∧ gOK sh M100 ∧
                          (if v100 < 0 then
                            (Q none sh (gU M100 411 11 (gor (M100 411 11) 0)))
                          else
                            (Q none sh (gU M100 411 11 (gor (M100 411 11) (gshl 1 v100)))))))
                    else
                      (if a2 = 10 then
                        ((gsh sh a1 = some (0, 10) ∧ a1 < 758) ∧
                          (∃ P137 : Option gV → gM → Prop, gC (gr 1 22) yX9_digit cX9_digit 4 (some (.int)) [(4, a1), (0, 0), (0, 3)] sh M (gPm sh P137) ∧ ∀ (r137 : Option gV) (M137 : gM), P137 r137 M137 → ∃ v137 : Int, r137 = some (0, v137) ∧ gOK sh M137 ∧
                            (Q none sh (gU M137 411 12 v137))))
                      else
                        (if a2 = 11 then
                          ((gsh sh a1 = some (0, 10) ∧ a1 < 758) ∧
                            (∃ P153 : Option gV → gM → Prop, gC (gr 1 22) yX9_digit cX9_digit 4 (some (.int)) [(4, a1), (0, 0), (0, 2)] sh M (gPm sh P153) ∧ ∀ (r153 : Option gV) (M153 : gM), P153 r153 M153 → ∃ v153 : Int, r153 = some (0, v153) ∧ gOK sh M153 ∧
                              (Q none sh (gU M153 411 13 v153))))
                        else
                          (if a2 = 12 then
                            ((gsh sh a1 = some (0, 10) ∧ a1 < 758) ∧
                              (∃ P169 : Option gV → gM → Prop, gC (gr 1 22) yX9_digit cX9_digit 4 (some (.int)) [(4, a1), (0, 0), (0, 2)] sh M (gPm sh P169) ∧ ∀ (r169 : Option gV) (M169 : gM), P169 r169 M169 → ∃ v169 : Int, r169 = some (0, v169) ∧ gOK sh M169 ∧
                                (Q none sh (gU M169 411 14 v169))))
                          else
                            (if a2 = 13 then
                              ((gsh sh a1 = some (0, 10) ∧ a1 < 758) ∧
                                (∃ P185 : Option gV → gM → Prop, gC (gr 1 22) yX9_digits cX9_digits 5 (some (.int)) [(4, a1), (0, 3), (0, 0)] sh M (gPm sh P185) ∧ ∀ (r185 : Option gV) (M185 : gM), P185 r185 M185 → ∃ v185 : Int, r185 = some (0, v185) ∧ gOK sh M185 ∧
                                  (Q none sh (gU M185 411 15 v185))))
                            else
                              ((gsh sh a1 = some (0, 10) ∧ a1 < 758) ∧
                                (∃ P202 : Option gV → gM → Prop, gC (gr 1 22) yX9_digit cX9_digit 4 (some (.int)) [(4, a1), (0, 1), (0, 6)] sh M (gPm sh P202) ∧ ∀ (r202 : Option gV) (M202 : gM), P202 r202 M202 → ∃ v202 : Int, r202 = some (0, v202) ∧ gOK sh M202 ∧
                                  (Q none sh (gU M202 411 16 v202))))))))))))))))))) : gC (gr 3 67) yX6_readSetting cX6_readSetting 4 none [(4, 410), (4, a1), (0, a2)] sh M Q := by
  refine gC_ofA (lv := [_, _, _, _]) (by decide +kernel) (Nat.le_of_ble_eq_true rfl) rfl (fun hMw hav => ?_)
  refine g_iload_n (q0 := 1) (j := 2) rfl dX6_readSetting_0 rfl ?_
  by_cases hs0 : a2 = 0
  · replace h := wI_pos hs0 h
    refine g_tabIn (off := 71) (tgt := 72) dX6_readSetting_1 (by omega) (by omega) (by rw [hs0]; rfl) (by decide) ?_
    refine g_aload_n (q0 := 73) (j := 0) rfl dX6_readSetting_72 rfl ?_
    refine g_getp (q0 := 76) (b := 411) rfl ff_X6_12 dX6_readSetting_73 rfl hOK (by decide) (sh_410 hOK) rfl (by decide) ?_
    refine g_aload_n (q0 := 77) (j := 1) rfl dX6_readSetting_76 rfl ?_
    refine g_iconst (q0 := 78) rfl dX6_readSetting_77 (k := ?_)
    refine g_iconst (q0 := 79) rfl dX6_readSetting_78 (k := ?_)
    obtain ⟨g42, h⟩ := h
    obtain ⟨P79, e79, h⟩ := h
    refine g_callVm (as := [_, _]) (rest := [_]) mt_X9_digit mi_X9_digit se_X9_digit ml_X6_186 dX6_readSetting_79 (q0 := 82) rfl rfl g42.1 rfl rfl e79 rfl ⟨by decide, by decide⟩ (Nat.le_of_ble_eq_true rfl) ⟨Nat.zero_le _, Nat.zero_le _⟩ (fun r79 M79 hP79 hw79 hMw79 => ?_)
    obtain ⟨v79, hr79, hOK43, h⟩ := h r79 M79 hP79
    subst hr79
    refine g_put (q0 := 85) (t := 0) (fi := 2) rfl rfl ff_X6_189 dX6_readSetting_82 rfl (sh_411 hOK43) rfl (fun _ => ⟨rfl, rfl⟩) ?_
    have hOK44 : gOK sh (gU M79 411 2 v79) := gOK_o hOK43 (sh_411 hOK43) (f := 2) rfl rfl
    refine g_goto (tgt := 208) dX6_readSetting_85 (by decide) ?_
    exact g_return dX6_readSetting_208 rfl ⟨Nat.zero_le _, Nat.zero_le _⟩ h
  · replace h := wI_neg hs0 h
    by_cases hs1 : a2 = 1
    · replace h := wI_pos hs1 h
      refine g_tabIn (off := 87) (tgt := 88) dX6_readSetting_1 (by omega) (by omega) (by rw [hs1]; rfl) (by decide) ?_
      refine g_aload_n (q0 := 89) (j := 0) rfl dX6_readSetting_88 rfl ?_
      refine g_aload_n (q0 := 90) (j := 1) rfl dX6_readSetting_89 rfl ?_
      obtain ⟨P90, e90, h⟩ := h
      refine g_callVm (as := [_]) (rest := []) mt_X6_readTo mi_X6_readTo se_X6_readTo ml_X6_191 dX6_readSetting_90 (q0 := 93) rfl rfl (sh_410 hOK) rfl rfl e90 rfl ⟨by decide, by decide⟩ (Nat.le_of_ble_eq_true rfl) ⟨Nat.zero_le _, Nat.zero_le _⟩ (fun r90 M90 hP90 hw90 hMw90 => ?_)
      obtain ⟨hr90, hOK41, h⟩ := h r90 M90 hP90
      subst hr90
      refine g_goto (tgt := 208) dX6_readSetting_93 (by decide) ?_
      exact g_return dX6_readSetting_208 rfl ⟨Nat.zero_le _, Nat.zero_le _⟩ h
    · replace h := wI_neg hs1 h
      by_cases hs2 : a2 = 2
      · replace h := wI_pos hs2 h
        refine g_tabIn (off := 193) (tgt := 194) dX6_readSetting_1 (by omega) (by omega) (by rw [hs2]; rfl) (by decide) ?_
        refine g_aload_n (q0 := 195) (j := 0) rfl dX6_readSetting_194 rfl ?_
        refine g_getp (q0 := 198) (b := 411) rfl ff_X6_12 dX6_readSetting_195 rfl hOK (by decide) (sh_410 hOK) rfl (by decide) ?_
        refine g_aload_n (q0 := 199) (j := 1) rfl dX6_readSetting_198 rfl ?_
        refine g_iconst (q0 := 200) rfl dX6_readSetting_199 (k := ?_)
        refine g_bipush (q0 := 202) rfl dX6_readSetting_200 (k := ?_)
        obtain ⟨g38, h⟩ := h
        obtain ⟨P202, e202, h⟩ := h
        refine g_callVm (as := [_, _]) (rest := [_]) mt_X9_digit mi_X9_digit se_X9_digit ml_X6_186 dX6_readSetting_202 (q0 := 205) rfl rfl g38.1 rfl rfl e202 rfl ⟨by decide, by decide⟩ (Nat.le_of_ble_eq_true rfl) ⟨Nat.zero_le _, Nat.zero_le _⟩ (fun r202 M202 hP202 hw202 hMw202 => ?_)
        obtain ⟨v202, hr202, hOK39, h⟩ := h r202 M202 hP202
        subst hr202
        refine g_put (q0 := 208) (t := 0) (fi := 16) rfl rfl ff_X6_205 dX6_readSetting_205 rfl (sh_411 hOK39) rfl (fun _ => ⟨rfl, rfl⟩) ?_
        have hOK40 : gOK sh (gU M202 411 16 v202) := gOK_o hOK39 (sh_411 hOK39) (f := 16) rfl rfl
        exact g_return dX6_readSetting_208 rfl ⟨Nat.zero_le _, Nat.zero_le _⟩ h
      · replace h := wI_neg hs2 h
        by_cases hs3 : a2 = 3
        · replace h := wI_pos hs3 h
          refine g_tabIn (off := 193) (tgt := 194) dX6_readSetting_1 (by omega) (by omega) (by rw [hs3]; rfl) (by decide) ?_
          refine g_aload_n (q0 := 195) (j := 0) rfl dX6_readSetting_194 rfl ?_
          refine g_getp (q0 := 198) (b := 411) rfl ff_X6_12 dX6_readSetting_195 rfl hOK (by decide) (sh_410 hOK) rfl (by decide) ?_
          refine g_aload_n (q0 := 199) (j := 1) rfl dX6_readSetting_198 rfl ?_
          refine g_iconst (q0 := 200) rfl dX6_readSetting_199 (k := ?_)
          refine g_bipush (q0 := 202) rfl dX6_readSetting_200 (k := ?_)
          obtain ⟨g35, h⟩ := h
          obtain ⟨P202, e202, h⟩ := h
          refine g_callVm (as := [_, _]) (rest := [_]) mt_X9_digit mi_X9_digit se_X9_digit ml_X6_186 dX6_readSetting_202 (q0 := 205) rfl rfl g35.1 rfl rfl e202 rfl ⟨by decide, by decide⟩ (Nat.le_of_ble_eq_true rfl) ⟨Nat.zero_le _, Nat.zero_le _⟩ (fun r202 M202 hP202 hw202 hMw202 => ?_)
          obtain ⟨v202, hr202, hOK36, h⟩ := h r202 M202 hP202
          subst hr202
          refine g_put (q0 := 208) (t := 0) (fi := 16) rfl rfl ff_X6_205 dX6_readSetting_205 rfl (sh_411 hOK36) rfl (fun _ => ⟨rfl, rfl⟩) ?_
          have hOK37 : gOK sh (gU M202 411 16 v202) := gOK_o hOK36 (sh_411 hOK36) (f := 16) rfl rfl
          exact g_return dX6_readSetting_208 rfl ⟨Nat.zero_le _, Nat.zero_le _⟩ h
        · replace h := wI_neg hs3 h
          by_cases hs4 : a2 = 4
          · replace h := wI_pos hs4 h
            refine g_tabIn (off := 193) (tgt := 194) dX6_readSetting_1 (by omega) (by omega) (by rw [hs4]; rfl) (by decide) ?_
            refine g_aload_n (q0 := 195) (j := 0) rfl dX6_readSetting_194 rfl ?_
            refine g_getp (q0 := 198) (b := 411) rfl ff_X6_12 dX6_readSetting_195 rfl hOK (by decide) (sh_410 hOK) rfl (by decide) ?_
            refine g_aload_n (q0 := 199) (j := 1) rfl dX6_readSetting_198 rfl ?_
            refine g_iconst (q0 := 200) rfl dX6_readSetting_199 (k := ?_)
            refine g_bipush (q0 := 202) rfl dX6_readSetting_200 (k := ?_)
            obtain ⟨g32, h⟩ := h
            obtain ⟨P202, e202, h⟩ := h
            refine g_callVm (as := [_, _]) (rest := [_]) mt_X9_digit mi_X9_digit se_X9_digit ml_X6_186 dX6_readSetting_202 (q0 := 205) rfl rfl g32.1 rfl rfl e202 rfl ⟨by decide, by decide⟩ (Nat.le_of_ble_eq_true rfl) ⟨Nat.zero_le _, Nat.zero_le _⟩ (fun r202 M202 hP202 hw202 hMw202 => ?_)
            obtain ⟨v202, hr202, hOK33, h⟩ := h r202 M202 hP202
            subst hr202
            refine g_put (q0 := 208) (t := 0) (fi := 16) rfl rfl ff_X6_205 dX6_readSetting_205 rfl (sh_411 hOK33) rfl (fun _ => ⟨rfl, rfl⟩) ?_
            have hOK34 : gOK sh (gU M202 411 16 v202) := gOK_o hOK33 (sh_411 hOK33) (f := 16) rfl rfl
            exact g_return dX6_readSetting_208 rfl ⟨Nat.zero_le _, Nat.zero_le _⟩ h
          · replace h := wI_neg hs4 h
            by_cases hs5 : a2 = 5
            · replace h := wI_pos hs5 h
              refine g_tabIn (off := 193) (tgt := 194) dX6_readSetting_1 (by omega) (by omega) (by rw [hs5]; rfl) (by decide) ?_
              refine g_aload_n (q0 := 195) (j := 0) rfl dX6_readSetting_194 rfl ?_
              refine g_getp (q0 := 198) (b := 411) rfl ff_X6_12 dX6_readSetting_195 rfl hOK (by decide) (sh_410 hOK) rfl (by decide) ?_
              refine g_aload_n (q0 := 199) (j := 1) rfl dX6_readSetting_198 rfl ?_
              refine g_iconst (q0 := 200) rfl dX6_readSetting_199 (k := ?_)
              refine g_bipush (q0 := 202) rfl dX6_readSetting_200 (k := ?_)
              obtain ⟨g29, h⟩ := h
              obtain ⟨P202, e202, h⟩ := h
              refine g_callVm (as := [_, _]) (rest := [_]) mt_X9_digit mi_X9_digit se_X9_digit ml_X6_186 dX6_readSetting_202 (q0 := 205) rfl rfl g29.1 rfl rfl e202 rfl ⟨by decide, by decide⟩ (Nat.le_of_ble_eq_true rfl) ⟨Nat.zero_le _, Nat.zero_le _⟩ (fun r202 M202 hP202 hw202 hMw202 => ?_)
              obtain ⟨v202, hr202, hOK30, h⟩ := h r202 M202 hP202
              subst hr202
              refine g_put (q0 := 208) (t := 0) (fi := 16) rfl rfl ff_X6_205 dX6_readSetting_205 rfl (sh_411 hOK30) rfl (fun _ => ⟨rfl, rfl⟩) ?_
              have hOK31 : gOK sh (gU M202 411 16 v202) := gOK_o hOK30 (sh_411 hOK30) (f := 16) rfl rfl
              exact g_return dX6_readSetting_208 rfl ⟨Nat.zero_le _, Nat.zero_le _⟩ h
            · replace h := wI_neg hs5 h
              by_cases hs6 : a2 = 6
              · replace h := wI_pos hs6 h
                refine g_tabIn (off := 193) (tgt := 194) dX6_readSetting_1 (by omega) (by omega) (by rw [hs6]; rfl) (by decide) ?_
                refine g_aload_n (q0 := 195) (j := 0) rfl dX6_readSetting_194 rfl ?_
                refine g_getp (q0 := 198) (b := 411) rfl ff_X6_12 dX6_readSetting_195 rfl hOK (by decide) (sh_410 hOK) rfl (by decide) ?_
                refine g_aload_n (q0 := 199) (j := 1) rfl dX6_readSetting_198 rfl ?_
                refine g_iconst (q0 := 200) rfl dX6_readSetting_199 (k := ?_)
                refine g_bipush (q0 := 202) rfl dX6_readSetting_200 (k := ?_)
                obtain ⟨g26, h⟩ := h
                obtain ⟨P202, e202, h⟩ := h
                refine g_callVm (as := [_, _]) (rest := [_]) mt_X9_digit mi_X9_digit se_X9_digit ml_X6_186 dX6_readSetting_202 (q0 := 205) rfl rfl g26.1 rfl rfl e202 rfl ⟨by decide, by decide⟩ (Nat.le_of_ble_eq_true rfl) ⟨Nat.zero_le _, Nat.zero_le _⟩ (fun r202 M202 hP202 hw202 hMw202 => ?_)
                obtain ⟨v202, hr202, hOK27, h⟩ := h r202 M202 hP202
                subst hr202
                refine g_put (q0 := 208) (t := 0) (fi := 16) rfl rfl ff_X6_205 dX6_readSetting_205 rfl (sh_411 hOK27) rfl (fun _ => ⟨rfl, rfl⟩) ?_
                have hOK28 : gOK sh (gU M202 411 16 v202) := gOK_o hOK27 (sh_411 hOK27) (f := 16) rfl rfl
                exact g_return dX6_readSetting_208 rfl ⟨Nat.zero_le _, Nat.zero_le _⟩ h
              · replace h := wI_neg hs6 h
                by_cases hs7 : a2 = 7
                · replace h := wI_pos hs7 h
                  refine g_tabIn (off := 193) (tgt := 194) dX6_readSetting_1 (by omega) (by omega) (by rw [hs7]; rfl) (by decide) ?_
                  refine g_aload_n (q0 := 195) (j := 0) rfl dX6_readSetting_194 rfl ?_
                  refine g_getp (q0 := 198) (b := 411) rfl ff_X6_12 dX6_readSetting_195 rfl hOK (by decide) (sh_410 hOK) rfl (by decide) ?_
                  refine g_aload_n (q0 := 199) (j := 1) rfl dX6_readSetting_198 rfl ?_
                  refine g_iconst (q0 := 200) rfl dX6_readSetting_199 (k := ?_)
                  refine g_bipush (q0 := 202) rfl dX6_readSetting_200 (k := ?_)
                  obtain ⟨g23, h⟩ := h
                  obtain ⟨P202, e202, h⟩ := h
                  refine g_callVm (as := [_, _]) (rest := [_]) mt_X9_digit mi_X9_digit se_X9_digit ml_X6_186 dX6_readSetting_202 (q0 := 205) rfl rfl g23.1 rfl rfl e202 rfl ⟨by decide, by decide⟩ (Nat.le_of_ble_eq_true rfl) ⟨Nat.zero_le _, Nat.zero_le _⟩ (fun r202 M202 hP202 hw202 hMw202 => ?_)
                  obtain ⟨v202, hr202, hOK24, h⟩ := h r202 M202 hP202
                  subst hr202
                  refine g_put (q0 := 208) (t := 0) (fi := 16) rfl rfl ff_X6_205 dX6_readSetting_205 rfl (sh_411 hOK24) rfl (fun _ => ⟨rfl, rfl⟩) ?_
                  have hOK25 : gOK sh (gU M202 411 16 v202) := gOK_o hOK24 (sh_411 hOK24) (f := 16) rfl rfl
                  exact g_return dX6_readSetting_208 rfl ⟨Nat.zero_le _, Nat.zero_le _⟩ h
                · replace h := wI_neg hs7 h
                  by_cases hs8 : a2 = 8
                  · replace h := wI_pos hs8 h
                    refine g_tabIn (off := 193) (tgt := 194) dX6_readSetting_1 (by omega) (by omega) (by rw [hs8]; rfl) (by decide) ?_
                    refine g_aload_n (q0 := 195) (j := 0) rfl dX6_readSetting_194 rfl ?_
                    refine g_getp (q0 := 198) (b := 411) rfl ff_X6_12 dX6_readSetting_195 rfl hOK (by decide) (sh_410 hOK) rfl (by decide) ?_
                    refine g_aload_n (q0 := 199) (j := 1) rfl dX6_readSetting_198 rfl ?_
                    refine g_iconst (q0 := 200) rfl dX6_readSetting_199 (k := ?_)
                    refine g_bipush (q0 := 202) rfl dX6_readSetting_200 (k := ?_)
                    obtain ⟨g20, h⟩ := h
                    obtain ⟨P202, e202, h⟩ := h
                    refine g_callVm (as := [_, _]) (rest := [_]) mt_X9_digit mi_X9_digit se_X9_digit ml_X6_186 dX6_readSetting_202 (q0 := 205) rfl rfl g20.1 rfl rfl e202 rfl ⟨by decide, by decide⟩ (Nat.le_of_ble_eq_true rfl) ⟨Nat.zero_le _, Nat.zero_le _⟩ (fun r202 M202 hP202 hw202 hMw202 => ?_)
                    obtain ⟨v202, hr202, hOK21, h⟩ := h r202 M202 hP202
                    subst hr202
                    refine g_put (q0 := 208) (t := 0) (fi := 16) rfl rfl ff_X6_205 dX6_readSetting_205 rfl (sh_411 hOK21) rfl (fun _ => ⟨rfl, rfl⟩) ?_
                    have hOK22 : gOK sh (gU M202 411 16 v202) := gOK_o hOK21 (sh_411 hOK21) (f := 16) rfl rfl
                    exact g_return dX6_readSetting_208 rfl ⟨Nat.zero_le _, Nat.zero_le _⟩ h
                  · replace h := wI_neg hs8 h
                    by_cases hs9 : a2 = 9
                    · replace h := wI_pos hs9 h
                      refine g_tabIn (off := 95) (tgt := 96) dX6_readSetting_1 (by omega) (by omega) (by rw [hs9]; rfl) (by decide) ?_
                      refine g_aload_n (q0 := 97) (j := 1) rfl dX6_readSetting_96 rfl ?_
                      refine g_iconst (q0 := 98) rfl dX6_readSetting_97 (k := ?_)
                      refine g_bipush (q0 := 100) rfl dX6_readSetting_98 (k := ?_)
                      obtain ⟨g16, h⟩ := h
                      obtain ⟨P100, e100, h⟩ := h
                      refine g_callVm (as := [_, _]) (rest := []) mt_X9_digit mi_X9_digit se_X9_digit ml_X6_186 dX6_readSetting_100 (q0 := 103) rfl rfl g16.1 rfl rfl e100 rfl ⟨by decide, by decide⟩ (Nat.le_of_ble_eq_true rfl) ⟨Nat.zero_le _, Nat.zero_le _⟩ (fun r100 M100 hP100 hw100 hMw100 => ?_)
                      obtain ⟨v100, hr100, hOK17, h⟩ := h r100 M100 hP100
                      subst hr100
                      refine g_istore_n (q0 := 104) (j := 3) (lv2 := [_, _, _, _]) rfl dX6_readSetting_103 (by decide) rfl rfl ?_
                      refine g_aload_n (q0 := 105) (j := 0) rfl dX6_readSetting_104 rfl ?_
                      refine g_getp (q0 := 108) (b := 411) rfl ff_X6_12 dX6_readSetting_105 rfl hOK17 (by decide) (sh_410 hOK17) rfl (by decide) ?_
                      refine g_dup (q0 := 109) rfl dX6_readSetting_108 (k := ?_)
                      refine g_getf (q0 := 112) (t := 0) (fi := 11) rfl rfl ff_X6_194 dX6_readSetting_109 rfl (sh_411 hOK17) ?_
                      refine g_iload_n (q0 := 113) (j := 3) rfl dX6_readSetting_112 rfl ?_
                      refine g_if_ge (q0 := 116) (tgt := 120) rfl dX6_readSetting_113 (by decide) (fun h113 => ?_) (fun h113 => ?_)
                      · replace h := wI_neg (Int.not_lt.mpr h113) h
                        refine g_iconst (q0 := 121) rfl dX6_readSetting_120 (k := ?_)
                        refine g_iload_n (q0 := 122) (j := 3) rfl dX6_readSetting_121 rfl ?_
                        refine g_ishl (q0 := 123) rfl dX6_readSetting_122 ?_
                        refine g_ior (q0 := 124) rfl dX6_readSetting_123 ?_
                        refine g_put (q0 := 127) (t := 0) (fi := 11) rfl rfl ff_X6_194 dX6_readSetting_124 rfl (sh_411 hOK17) rfl (fun _ => ⟨rfl, rfl⟩) ?_
                        have hOK18 : gOK sh (gU M100 411 11 (gor (M100 411 11) (gshl 1 v100))) := gOK_o hOK17 (sh_411 hOK17) (f := 11) rfl rfl
                        refine g_goto (tgt := 208) dX6_readSetting_127 (by decide) ?_
                        exact g_return dX6_readSetting_208 rfl ⟨Nat.zero_le _, Nat.zero_le _⟩ h
                      · replace h := wI_pos h113 h
                        refine g_iconst (q0 := 117) rfl dX6_readSetting_116 (k := ?_)
                        refine g_goto (tgt := 123) dX6_readSetting_117 (by decide) ?_
                        refine g_ior (q0 := 124) rfl dX6_readSetting_123 ?_
                        refine g_put (q0 := 127) (t := 0) (fi := 11) rfl rfl ff_X6_194 dX6_readSetting_124 rfl (sh_411 hOK17) rfl (fun _ => ⟨rfl, rfl⟩) ?_
                        have hOK19 : gOK sh (gU M100 411 11 (gor (M100 411 11) 0)) := gOK_o hOK17 (sh_411 hOK17) (f := 11) rfl rfl
                        refine g_goto (tgt := 208) dX6_readSetting_127 (by decide) ?_
                        exact g_return dX6_readSetting_208 rfl ⟨Nat.zero_le _, Nat.zero_le _⟩ h
                    · replace h := wI_neg hs9 h
                      by_cases hs10 : a2 = 10
                      · replace h := wI_pos hs10 h
                        refine g_tabIn (off := 129) (tgt := 130) dX6_readSetting_1 (by omega) (by omega) (by rw [hs10]; rfl) (by decide) ?_
                        refine g_aload_n (q0 := 131) (j := 0) rfl dX6_readSetting_130 rfl ?_
                        refine g_getp (q0 := 134) (b := 411) rfl ff_X6_12 dX6_readSetting_131 rfl hOK (by decide) (sh_410 hOK) rfl (by decide) ?_
                        refine g_aload_n (q0 := 135) (j := 1) rfl dX6_readSetting_134 rfl ?_
                        refine g_iconst (q0 := 136) rfl dX6_readSetting_135 (k := ?_)
                        refine g_iconst (q0 := 137) rfl dX6_readSetting_136 (k := ?_)
                        obtain ⟨g13, h⟩ := h
                        obtain ⟨P137, e137, h⟩ := h
                        refine g_callVm (as := [_, _]) (rest := [_]) mt_X9_digit mi_X9_digit se_X9_digit ml_X6_186 dX6_readSetting_137 (q0 := 140) rfl rfl g13.1 rfl rfl e137 rfl ⟨by decide, by decide⟩ (Nat.le_of_ble_eq_true rfl) ⟨Nat.zero_le _, Nat.zero_le _⟩ (fun r137 M137 hP137 hw137 hMw137 => ?_)
                        obtain ⟨v137, hr137, hOK14, h⟩ := h r137 M137 hP137
                        subst hr137
                        refine g_put (q0 := 143) (t := 0) (fi := 12) rfl rfl ff_X6_197 dX6_readSetting_140 rfl (sh_411 hOK14) rfl (fun _ => ⟨rfl, rfl⟩) ?_
                        have hOK15 : gOK sh (gU M137 411 12 v137) := gOK_o hOK14 (sh_411 hOK14) (f := 12) rfl rfl
                        refine g_goto (tgt := 208) dX6_readSetting_143 (by decide) ?_
                        exact g_return dX6_readSetting_208 rfl ⟨Nat.zero_le _, Nat.zero_le _⟩ h
                      · replace h := wI_neg hs10 h
                        by_cases hs11 : a2 = 11
                        · replace h := wI_pos hs11 h
                          refine g_tabIn (off := 145) (tgt := 146) dX6_readSetting_1 (by omega) (by omega) (by rw [hs11]; rfl) (by decide) ?_
                          refine g_aload_n (q0 := 147) (j := 0) rfl dX6_readSetting_146 rfl ?_
                          refine g_getp (q0 := 150) (b := 411) rfl ff_X6_12 dX6_readSetting_147 rfl hOK (by decide) (sh_410 hOK) rfl (by decide) ?_
                          refine g_aload_n (q0 := 151) (j := 1) rfl dX6_readSetting_150 rfl ?_
                          refine g_iconst (q0 := 152) rfl dX6_readSetting_151 (k := ?_)
                          refine g_iconst (q0 := 153) rfl dX6_readSetting_152 (k := ?_)
                          obtain ⟨g10, h⟩ := h
                          obtain ⟨P153, e153, h⟩ := h
                          refine g_callVm (as := [_, _]) (rest := [_]) mt_X9_digit mi_X9_digit se_X9_digit ml_X6_186 dX6_readSetting_153 (q0 := 156) rfl rfl g10.1 rfl rfl e153 rfl ⟨by decide, by decide⟩ (Nat.le_of_ble_eq_true rfl) ⟨Nat.zero_le _, Nat.zero_le _⟩ (fun r153 M153 hP153 hw153 hMw153 => ?_)
                          obtain ⟨v153, hr153, hOK11, h⟩ := h r153 M153 hP153
                          subst hr153
                          refine g_put (q0 := 159) (t := 0) (fi := 13) rfl rfl ff_X6_199 dX6_readSetting_156 rfl (sh_411 hOK11) rfl (fun _ => ⟨rfl, rfl⟩) ?_
                          have hOK12 : gOK sh (gU M153 411 13 v153) := gOK_o hOK11 (sh_411 hOK11) (f := 13) rfl rfl
                          refine g_goto (tgt := 208) dX6_readSetting_159 (by decide) ?_
                          exact g_return dX6_readSetting_208 rfl ⟨Nat.zero_le _, Nat.zero_le _⟩ h
                        · replace h := wI_neg hs11 h
                          by_cases hs12 : a2 = 12
                          · replace h := wI_pos hs12 h
                            refine g_tabIn (off := 161) (tgt := 162) dX6_readSetting_1 (by omega) (by omega) (by rw [hs12]; rfl) (by decide) ?_
                            refine g_aload_n (q0 := 163) (j := 0) rfl dX6_readSetting_162 rfl ?_
                            refine g_getp (q0 := 166) (b := 411) rfl ff_X6_12 dX6_readSetting_163 rfl hOK (by decide) (sh_410 hOK) rfl (by decide) ?_
                            refine g_aload_n (q0 := 167) (j := 1) rfl dX6_readSetting_166 rfl ?_
                            refine g_iconst (q0 := 168) rfl dX6_readSetting_167 (k := ?_)
                            refine g_iconst (q0 := 169) rfl dX6_readSetting_168 (k := ?_)
                            obtain ⟨g7, h⟩ := h
                            obtain ⟨P169, e169, h⟩ := h
                            refine g_callVm (as := [_, _]) (rest := [_]) mt_X9_digit mi_X9_digit se_X9_digit ml_X6_186 dX6_readSetting_169 (q0 := 172) rfl rfl g7.1 rfl rfl e169 rfl ⟨by decide, by decide⟩ (Nat.le_of_ble_eq_true rfl) ⟨Nat.zero_le _, Nat.zero_le _⟩ (fun r169 M169 hP169 hw169 hMw169 => ?_)
                            obtain ⟨v169, hr169, hOK8, h⟩ := h r169 M169 hP169
                            subst hr169
                            refine g_put (q0 := 175) (t := 0) (fi := 14) rfl rfl ff_X6_201 dX6_readSetting_172 rfl (sh_411 hOK8) rfl (fun _ => ⟨rfl, rfl⟩) ?_
                            have hOK9 : gOK sh (gU M169 411 14 v169) := gOK_o hOK8 (sh_411 hOK8) (f := 14) rfl rfl
                            refine g_goto (tgt := 208) dX6_readSetting_175 (by decide) ?_
                            exact g_return dX6_readSetting_208 rfl ⟨Nat.zero_le _, Nat.zero_le _⟩ h
                          · replace h := wI_neg hs12 h
                            by_cases hs13 : a2 = 13
                            · replace h := wI_pos hs13 h
                              refine g_tabIn (off := 177) (tgt := 178) dX6_readSetting_1 (by omega) (by omega) (by rw [hs13]; rfl) (by decide) ?_
                              refine g_aload_n (q0 := 179) (j := 0) rfl dX6_readSetting_178 rfl ?_
                              refine g_getp (q0 := 182) (b := 411) rfl ff_X6_12 dX6_readSetting_179 rfl hOK (by decide) (sh_410 hOK) rfl (by decide) ?_
                              refine g_aload_n (q0 := 183) (j := 1) rfl dX6_readSetting_182 rfl ?_
                              refine g_iconst (q0 := 184) rfl dX6_readSetting_183 (k := ?_)
                              refine g_iconst (q0 := 185) rfl dX6_readSetting_184 (k := ?_)
                              obtain ⟨g4, h⟩ := h
                              obtain ⟨P185, e185, h⟩ := h
                              refine g_callVm (as := [_, _]) (rest := [_]) mt_X9_digits mi_X9_digits se_X9_digits ml_X6_180 dX6_readSetting_185 (q0 := 188) rfl rfl g4.1 rfl rfl e185 rfl ⟨by decide, by decide⟩ (Nat.le_of_ble_eq_true rfl) ⟨Nat.zero_le _, Nat.zero_le _⟩ (fun r185 M185 hP185 hw185 hMw185 => ?_)
                              obtain ⟨v185, hr185, hOK5, h⟩ := h r185 M185 hP185
                              subst hr185
                              refine g_put (q0 := 191) (t := 0) (fi := 15) rfl rfl ff_X6_203 dX6_readSetting_188 rfl (sh_411 hOK5) rfl (fun _ => ⟨rfl, rfl⟩) ?_
                              have hOK6 : gOK sh (gU M185 411 15 v185) := gOK_o hOK5 (sh_411 hOK5) (f := 15) rfl rfl
                              refine g_goto (tgt := 208) dX6_readSetting_191 (by decide) ?_
                              exact g_return dX6_readSetting_208 rfl ⟨Nat.zero_le _, Nat.zero_le _⟩ h
                            · replace h := wI_neg hs13 h
                              refine g_tabOut (tgt := 194) dX6_readSetting_1 (by omega) (by decide) ?_
                              refine g_aload_n (q0 := 195) (j := 0) rfl dX6_readSetting_194 rfl ?_
                              refine g_getp (q0 := 198) (b := 411) rfl ff_X6_12 dX6_readSetting_195 rfl hOK (by decide) (sh_410 hOK) rfl (by decide) ?_
                              refine g_aload_n (q0 := 199) (j := 1) rfl dX6_readSetting_198 rfl ?_
                              refine g_iconst (q0 := 200) rfl dX6_readSetting_199 (k := ?_)
                              refine g_bipush (q0 := 202) rfl dX6_readSetting_200 (k := ?_)
                              obtain ⟨g1, h⟩ := h
                              obtain ⟨P202, e202, h⟩ := h
                              refine g_callVm (as := [_, _]) (rest := [_]) mt_X9_digit mi_X9_digit se_X9_digit ml_X6_186 dX6_readSetting_202 (q0 := 205) rfl rfl g1.1 rfl rfl e202 rfl ⟨by decide, by decide⟩ (Nat.le_of_ble_eq_true rfl) ⟨Nat.zero_le _, Nat.zero_le _⟩ (fun r202 M202 hP202 hw202 hMw202 => ?_)
                              obtain ⟨v202, hr202, hOK2, h⟩ := h r202 M202 hP202
                              subst hr202
                              refine g_put (q0 := 208) (t := 0) (fi := 16) rfl rfl ff_X6_205 dX6_readSetting_205 rfl (sh_411 hOK2) rfl (fun _ => ⟨rfl, rfl⟩) ?_
                              have hOK3 : gOK sh (gU M202 411 16 v202) := gOK_o hOK2 (sh_411 hOK2) (f := 16) rfl rfl
                              exact g_return dX6_readSetting_208 rfl ⟨Nat.zero_le _, Nat.zero_le _⟩ h
-- ==== X6_readTo
theorem dX6_readTo_0 : decode cX6_readTo 0 = .ok (.aload_n 1, 1) := by decide +kernel
theorem dX6_readTo_1 : decode cX6_readTo 1 = .ok (.getfield 51, 3) := by decide +kernel
theorem dX6_readTo_4 : decode cX6_readTo 4 = .ok (.istore_n 2, 1) := by decide +kernel
theorem dX6_readTo_5 : decode cX6_readTo 5 = .ok (.aload_n 0, 1) := by decide +kernel
theorem dX6_readTo_6 : decode cX6_readTo 6 = .ok (.getfield 12, 3) := by decide +kernel
theorem dX6_readTo_9 : decode cX6_readTo 9 = .ok (.aload_n 1, 1) := by decide +kernel
theorem dX6_readTo_10 : decode cX6_readTo 10 = .ok (.iconst 0, 1) := by decide +kernel
theorem dX6_readTo_11 : decode cX6_readTo 11 = .ok (.iconst 3, 1) := by decide +kernel
theorem dX6_readTo_12 : decode cX6_readTo 12 = .ok (.invokevirtual 186, 3) := by decide +kernel
theorem dX6_readTo_15 : decode cX6_readTo 15 = .ok (.putfield 207, 3) := by decide +kernel
theorem dX6_readTo_18 : decode cX6_readTo 18 = .ok (.aload_n 0, 1) := by decide +kernel
theorem dX6_readTo_19 : decode cX6_readTo 19 = .ok (.getfield 12, 3) := by decide +kernel
theorem dX6_readTo_22 : decode cX6_readTo 22 = .ok (.getfield 207, 3) := by decide +kernel
theorem dX6_readTo_25 : decode cX6_readTo 25 = .ok (.aload_n 0, 1) := by decide +kernel
theorem dX6_readTo_26 : decode cX6_readTo 26 = .ok (.getfield 12, 3) := by decide +kernel
theorem dX6_readTo_29 : decode cX6_readTo 29 = .ok (.getfield 189, 3) := by decide +kernel
theorem dX6_readTo_32 : decode cX6_readTo 32 = .ok (.if_icmp .ne 9, 3) := by decide +kernel
theorem dX6_readTo_35 : decode cX6_readTo 35 = .ok (.aload_n 1, 1) := by decide +kernel
theorem dX6_readTo_36 : decode cX6_readTo 36 = .ok (.iconst 3, 1) := by decide +kernel
theorem dX6_readTo_37 : decode cX6_readTo 37 = .ok (.iload_n 2, 1) := by decide +kernel
theorem dX6_readTo_38 : decode cX6_readTo 38 = .ok (.invokevirtual 61, 3) := by decide +kernel
theorem dX6_readTo_41 : decode cX6_readTo 41 = .ok (.return_, 1) := by decide +kernel
theorem w_X6_readTo {sh : gS} {Q : Option gV → gS → gM → Prop} {a1 : Int} {M : gM} (hOK : gOK sh M) (h : ((gsh sh a1 = some (0, 10) ∧ a1 < 758) ∧
    (∃ P12 : Option gV → gM → Prop, gC (gr 1 22) yX9_digit cX9_digit 4 (some (.int)) [(4, a1), (0, 0), (0, 3)] sh M (gPm sh P12) ∧ ∀ (r12 : Option gV) (M12 : gM), P12 r12 M12 → ∃ v12 : Int, r12 = some (0, v12) ∧ gOK sh M12 ∧
      (if ((gU M12 411 3 v12) 411 3) = ((gU M12 411 3 v12) 411 2) then
        (∃ P38 : Option gV → gM → Prop, gC (gr 0 0) yX9_fail cX9_fail 3 none [(4, a1), (0, 3), (0, (M a1 2))] sh (gU M12 411 3 v12) (gPm sh P38) ∧ ∀ (r38 : Option gV) (M38 : gM), P38 r38 M38 → r38 = none ∧ gOK sh M38 ∧
          (Q none sh M38))
      else
        (Q none sh (gU M12 411 3 v12)))))) : gC (gr 2 45) yX6_readTo cX6_readTo 3 none [(4, 410), (4, a1)] sh M Q := by
  refine gC_ofA (lv := [_, _, _]) (by decide +kernel) (Nat.le_of_ble_eq_true rfl) rfl (fun hMw hav => ?_)
  refine g_aload_n (q0 := 1) (j := 1) rfl dX6_readTo_0 rfl ?_
  obtain ⟨g1, h⟩ := h
  refine g_getf (q0 := 4) (t := 0) (fi := 2) rfl rfl ff_X6_51 dX6_readTo_1 rfl g1.1 ?_
  refine g_istore_n (q0 := 5) (j := 2) (lv2 := [_, _, _]) rfl dX6_readTo_4 (by decide) rfl rfl ?_
  refine g_aload_n (q0 := 6) (j := 0) rfl dX6_readTo_5 rfl ?_
  refine g_getp (q0 := 9) (b := 411) rfl ff_X6_12 dX6_readTo_6 rfl hOK (by decide) (sh_410 hOK) rfl (by decide) ?_
  refine g_aload_n (q0 := 10) (j := 1) rfl dX6_readTo_9 rfl ?_
  refine g_iconst (q0 := 11) rfl dX6_readTo_10 (k := ?_)
  refine g_iconst (q0 := 12) rfl dX6_readTo_11 (k := ?_)
  obtain ⟨P12, e12, h⟩ := h
  refine g_callVm (as := [_, _]) (rest := [_]) mt_X9_digit mi_X9_digit se_X9_digit ml_X6_186 dX6_readTo_12 (q0 := 15) rfl rfl g1.1 rfl rfl e12 rfl ⟨by decide, by decide⟩ (Nat.le_of_ble_eq_true rfl) ⟨Nat.zero_le _, Nat.zero_le _⟩ (fun r12 M12 hP12 hw12 hMw12 => ?_)
  obtain ⟨v12, hr12, hOK2, h⟩ := h r12 M12 hP12
  subst hr12
  refine g_put (q0 := 18) (t := 0) (fi := 3) rfl rfl ff_X6_207 dX6_readTo_15 rfl (sh_411 hOK2) rfl (fun _ => ⟨rfl, rfl⟩) ?_
  have hOK3 : gOK sh (gU M12 411 3 v12) := gOK_o hOK2 (sh_411 hOK2) (f := 3) rfl rfl
  refine g_aload_n (q0 := 19) (j := 0) rfl dX6_readTo_18 rfl ?_
  refine g_getp (q0 := 22) (b := 411) rfl ff_X6_12 dX6_readTo_19 rfl hOK3 (by decide) (sh_410 hOK3) rfl (by decide) ?_
  refine g_getf (q0 := 25) (t := 0) (fi := 3) rfl rfl ff_X6_207 dX6_readTo_22 rfl (sh_411 hOK3) ?_
  refine g_aload_n (q0 := 26) (j := 0) rfl dX6_readTo_25 rfl ?_
  refine g_getp (q0 := 29) (b := 411) rfl ff_X6_12 dX6_readTo_26 rfl hOK3 (by decide) (sh_410 hOK3) rfl (by decide) ?_
  refine g_getf (q0 := 32) (t := 0) (fi := 2) rfl rfl ff_X6_189 dX6_readTo_29 rfl (sh_411 hOK3) ?_
  refine g_icmp_ne (q0 := 35) (tgt := 41) rfl dX6_readTo_32 (by decide) (fun h32 => ?_) (fun h32 => ?_)
  · replace h := wI_neg h32 h
    exact g_return dX6_readTo_41 rfl ⟨Nat.zero_le _, Nat.zero_le _⟩ h
  · replace h := wI_pos h32 h
    refine g_aload_n (q0 := 36) (j := 1) rfl dX6_readTo_35 rfl ?_
    refine g_iconst (q0 := 37) rfl dX6_readTo_36 (k := ?_)
    refine g_iload_n (q0 := 38) (j := 2) rfl dX6_readTo_37 rfl ?_
    obtain ⟨P38, e38, h⟩ := h
    refine g_callVm (as := [_, _]) (rest := []) mt_X9_fail mi_X9_fail se_X9_fail ml_X6_61 dX6_readTo_38 (q0 := 41) rfl rfl g1.1 rfl rfl e38 rfl ⟨by decide, by decide⟩ (Nat.le_of_ble_eq_true rfl) ⟨Nat.zero_le _, Nat.zero_le _⟩ (fun r38 M38 hP38 hw38 hMw38 => ?_)
    obtain ⟨hr38, hOK4, h⟩ := h r38 M38 hP38
    subst hr38
    exact g_return dX6_readTo_41 rfl ⟨Nat.zero_le _, Nat.zero_le _⟩ h
-- ==== X8_tree
theorem dX8_tree_0 : decode cX8_tree 0 = .ok (.aload_n 0, 1) := by decide +kernel
theorem dX8_tree_1 : decode cX8_tree 1 = .ok (.getfield 21, 3) := by decide +kernel
theorem dX8_tree_4 : decode cX8_tree 4 = .ok (.getfield 51, 3) := by decide +kernel
theorem dX8_tree_7 : decode cX8_tree 7 = .ok (.areturn, 1) := by decide +kernel
theorem w_X8_tree {sh : gS} {Q : Option gV → gS → gM → Prop} {M : gM} (hOK : gOK sh M) (h : (Q (some (4, 382)) sh M)) : gC (gr 0 0) yX8_tree cX8_tree 1 (some (.object "CarriedHistory$Tree")) [(4, 3)] sh M Q := by
  refine gC_ofA (lv := [_]) (by decide +kernel) (Nat.le_of_ble_eq_true rfl) rfl (fun hMw hav => ?_)
  refine g_aload_n (q0 := 1) (j := 0) rfl dX8_tree_0 rfl ?_
  refine g_getp (q0 := 4) (b := 380) rfl ff_X8_21 dX8_tree_1 rfl hOK (by decide) (sh_3 hOK) rfl (by decide) ?_
  refine g_getp (q0 := 7) (b := 382) rfl ff_X8_51 dX8_tree_4 rfl hOK (by decide) (sh_380 hOK) rfl (by decide) ?_
  exact g_areturn dX8_tree_7 rfl (by decide) ⟨Nat.zero_le _, Nat.zero_le _⟩ h
-- ==== X8_rewrite
theorem dX8_rewrite_0 : decode cX8_rewrite 0 = .ok (.aload_n 1, 1) := by decide +kernel
theorem dX8_rewrite_1 : decode cX8_rewrite 1 = .ok (.getfield 108, 3) := by decide +kernel
theorem dX8_rewrite_4 : decode cX8_rewrite 4 = .ok (.aload_n 0, 1) := by decide +kernel
theorem dX8_rewrite_5 : decode cX8_rewrite 5 = .ok (.getfield 12, 3) := by decide +kernel
theorem dX8_rewrite_8 : decode cX8_rewrite 8 = .ok (.getfield 112, 3) := by decide +kernel
theorem dX8_rewrite_11 : decode cX8_rewrite 11 = .ok (.iload_n 2, 1) := by decide +kernel
theorem dX8_rewrite_12 : decode cX8_rewrite 12 = .ok (.iaload, 1) := by decide +kernel
theorem dX8_rewrite_13 : decode cX8_rewrite 13 = .ok (.invokevirtual 115, 3) := by decide +kernel
theorem dX8_rewrite_16 : decode cX8_rewrite 16 = .ok (.istore_n 3, 1) := by decide +kernel
theorem dX8_rewrite_17 : decode cX8_rewrite 17 = .ok (.aload_n 0, 1) := by decide +kernel
theorem dX8_rewrite_18 : decode cX8_rewrite 18 = .ok (.getfield 21, 3) := by decide +kernel
theorem dX8_rewrite_21 : decode cX8_rewrite 21 = .ok (.iload_n 3, 1) := by decide +kernel
theorem dX8_rewrite_22 : decode cX8_rewrite 22 = .ok (.aload_n 0, 1) := by decide +kernel
theorem dX8_rewrite_23 : decode cX8_rewrite 23 = .ok (.getfield 12, 3) := by decide +kernel
theorem dX8_rewrite_26 : decode cX8_rewrite 26 = .ok (.getfield 121, 3) := by decide +kernel
theorem dX8_rewrite_29 : decode cX8_rewrite 29 = .ok (.iload_n 2, 1) := by decide +kernel
theorem dX8_rewrite_30 : decode cX8_rewrite 30 = .ok (.iaload, 1) := by decide +kernel
theorem dX8_rewrite_31 : decode cX8_rewrite 31 = .ok (.invokevirtual 124, 3) := by decide +kernel
theorem dX8_rewrite_34 : decode cX8_rewrite 34 = .ok (.aload_n 0, 1) := by decide +kernel
theorem dX8_rewrite_35 : decode cX8_rewrite 35 = .ok (.aload_n 1, 1) := by decide +kernel
theorem dX8_rewrite_36 : decode cX8_rewrite 36 = .ok (.aload_n 0, 1) := by decide +kernel
theorem dX8_rewrite_37 : decode cX8_rewrite 37 = .ok (.getfield 12, 3) := by decide +kernel
theorem dX8_rewrite_40 : decode cX8_rewrite 40 = .ok (.iload_n 2, 1) := by decide +kernel
theorem dX8_rewrite_41 : decode cX8_rewrite 41 = .ok (.invokevirtual 127, 3) := by decide +kernel
theorem dX8_rewrite_44 : decode cX8_rewrite 44 = .ok (.invokevirtual 130, 3) := by decide +kernel
theorem dX8_rewrite_47 : decode cX8_rewrite 47 = .ok (.aload_n 0, 1) := by decide +kernel
theorem dX8_rewrite_48 : decode cX8_rewrite 48 = .ok (.aload_n 1, 1) := by decide +kernel
theorem dX8_rewrite_49 : decode cX8_rewrite 49 = .ok (.iload_n 2, 1) := by decide +kernel
theorem dX8_rewrite_50 : decode cX8_rewrite 50 = .ok (.invokevirtual 134, 3) := by decide +kernel
theorem dX8_rewrite_53 : decode cX8_rewrite 53 = .ok (.aload_n 0, 1) := by decide +kernel
theorem dX8_rewrite_54 : decode cX8_rewrite 54 = .ok (.aload_n 1, 1) := by decide +kernel
theorem dX8_rewrite_55 : decode cX8_rewrite 55 = .ok (.getfield 138, 3) := by decide +kernel
theorem dX8_rewrite_58 : decode cX8_rewrite 58 = .ok (.invokevirtual 141, 3) := by decide +kernel
theorem dX8_rewrite_61 : decode cX8_rewrite 61 = .ok (.aload_n 1, 1) := by decide +kernel
theorem dX8_rewrite_62 : decode cX8_rewrite 62 = .ok (.getfield 144, 3) := by decide +kernel
theorem dX8_rewrite_65 : decode cX8_rewrite 65 = .ok (.ifCond .le 31, 3) := by decide +kernel
theorem dX8_rewrite_68 : decode cX8_rewrite 68 = .ok (.aload_n 0, 1) := by decide +kernel
theorem dX8_rewrite_69 : decode cX8_rewrite 69 = .ok (.invokevirtual 147, 3) := by decide +kernel
theorem dX8_rewrite_72 : decode cX8_rewrite 72 = .ok (.ifCond .eq 24, 3) := by decide +kernel
theorem dX8_rewrite_75 : decode cX8_rewrite 75 = .ok (.aload_n 1, 1) := by decide +kernel
theorem dX8_rewrite_76 : decode cX8_rewrite 76 = .ok (.getfield 144, 3) := by decide +kernel
theorem dX8_rewrite_79 : decode cX8_rewrite 79 = .ok (.iconst 2, 1) := by decide +kernel
theorem dX8_rewrite_80 : decode cX8_rewrite 80 = .ok (.if_icmp .eq 12, 3) := by decide +kernel
theorem dX8_rewrite_83 : decode cX8_rewrite 83 = .ok (.aload_n 0, 1) := by decide +kernel
theorem dX8_rewrite_84 : decode cX8_rewrite 84 = .ok (.aload_n 1, 1) := by decide +kernel
theorem dX8_rewrite_85 : decode cX8_rewrite 85 = .ok (.iload_n 2, 1) := by decide +kernel
theorem dX8_rewrite_86 : decode cX8_rewrite 86 = .ok (.invokevirtual 151, 3) := by decide +kernel
theorem dX8_rewrite_89 : decode cX8_rewrite 89 = .ok (.ifCond .ne 7, 3) := by decide +kernel
theorem dX8_rewrite_92 : decode cX8_rewrite 92 = .ok (.iconst 1, 1) := by decide +kernel
theorem dX8_rewrite_93 : decode cX8_rewrite 93 = .ok (.goto 4, 3) := by decide +kernel
theorem dX8_rewrite_96 : decode cX8_rewrite 96 = .ok (.iconst 0, 1) := by decide +kernel
theorem dX8_rewrite_97 : decode cX8_rewrite 97 = .ok (.istore 4, 2) := by decide +kernel
theorem dX8_rewrite_99 : decode cX8_rewrite 99 = .ok (.iload 4, 2) := by decide +kernel
theorem dX8_rewrite_101 : decode cX8_rewrite 101 = .ok (.ifCond .ne 12, 3) := by decide +kernel
theorem dX8_rewrite_104 : decode cX8_rewrite 104 = .ok (.aload_n 0, 1) := by decide +kernel
theorem dX8_rewrite_105 : decode cX8_rewrite 105 = .ok (.aload_n 1, 1) := by decide +kernel
theorem dX8_rewrite_106 : decode cX8_rewrite 106 = .ok (.iload_n 2, 1) := by decide +kernel
theorem dX8_rewrite_107 : decode cX8_rewrite 107 = .ok (.invokevirtual 155, 3) := by decide +kernel
theorem dX8_rewrite_110 : decode cX8_rewrite 110 = .ok (.ifCond .eq 50, 3) := by decide +kernel
theorem dX8_rewrite_113 : decode cX8_rewrite 113 = .ok (.aload_n 0, 1) := by decide +kernel
theorem dX8_rewrite_114 : decode cX8_rewrite 114 = .ok (.getfield 41, 3) := by decide +kernel
theorem dX8_rewrite_117 : decode cX8_rewrite 117 = .ok (.iload_n 2, 1) := by decide +kernel
theorem dX8_rewrite_118 : decode cX8_rewrite 118 = .ok (.iload 4, 2) := by decide +kernel
theorem dX8_rewrite_120 : decode cX8_rewrite 120 = .ok (.ifCond .eq 7, 3) := by decide +kernel
theorem dX8_rewrite_123 : decode cX8_rewrite 123 = .ok (.iconst 1, 1) := by decide +kernel
theorem dX8_rewrite_124 : decode cX8_rewrite 124 = .ok (.goto 4, 3) := by decide +kernel
theorem dX8_rewrite_127 : decode cX8_rewrite 127 = .ok (.iconst 2, 1) := by decide +kernel
theorem dX8_rewrite_128 : decode cX8_rewrite 128 = .ok (.iastore, 1) := by decide +kernel
theorem dX8_rewrite_129 : decode cX8_rewrite 129 = .ok (.aload_n 0, 1) := by decide +kernel
theorem dX8_rewrite_130 : decode cX8_rewrite 130 = .ok (.getfield 37, 3) := by decide +kernel
theorem dX8_rewrite_133 : decode cX8_rewrite 133 = .ok (.iload_n 2, 1) := by decide +kernel
theorem dX8_rewrite_134 : decode cX8_rewrite 134 = .ok (.aload_n 0, 1) := by decide +kernel
theorem dX8_rewrite_135 : decode cX8_rewrite 135 = .ok (.getfield 21, 3) := by decide +kernel
theorem dX8_rewrite_138 : decode cX8_rewrite 138 = .ok (.getfield 158, 3) := by decide +kernel
theorem dX8_rewrite_141 : decode cX8_rewrite 141 = .ok (.ifCond .ne 7, 3) := by decide +kernel
theorem dX8_rewrite_144 : decode cX8_rewrite 144 = .ok (.iconst (-1), 1) := by decide +kernel
theorem dX8_rewrite_145 : decode cX8_rewrite 145 = .ok (.goto 12, 3) := by decide +kernel
theorem dX8_rewrite_148 : decode cX8_rewrite 148 = .ok (.aload_n 0, 1) := by decide +kernel
theorem dX8_rewrite_149 : decode cX8_rewrite 149 = .ok (.getfield 21, 3) := by decide +kernel
theorem dX8_rewrite_152 : decode cX8_rewrite 152 = .ok (.getfield 161, 3) := by decide +kernel
theorem dX8_rewrite_155 : decode cX8_rewrite 155 = .ok (.iconst 0, 1) := by decide +kernel
theorem dX8_rewrite_156 : decode cX8_rewrite 156 = .ok (.iaload, 1) := by decide +kernel
theorem dX8_rewrite_157 : decode cX8_rewrite 157 = .ok (.iastore, 1) := by decide +kernel
theorem dX8_rewrite_158 : decode cX8_rewrite 158 = .ok (.iconst 1, 1) := by decide +kernel
theorem dX8_rewrite_159 : decode cX8_rewrite 159 = .ok (.ireturn, 1) := by decide +kernel
theorem dX8_rewrite_160 : decode cX8_rewrite 160 = .ok (.aload_n 0, 1) := by decide +kernel
theorem dX8_rewrite_161 : decode cX8_rewrite 161 = .ok (.aload_n 1, 1) := by decide +kernel
theorem dX8_rewrite_162 : decode cX8_rewrite 162 = .ok (.iload_n 2, 1) := by decide +kernel
theorem dX8_rewrite_163 : decode cX8_rewrite 163 = .ok (.invokevirtual 164, 3) := by decide +kernel
theorem dX8_rewrite_166 : decode cX8_rewrite 166 = .ok (.aload_n 0, 1) := by decide +kernel
theorem dX8_rewrite_167 : decode cX8_rewrite 167 = .ok (.getfield 12, 3) := by decide +kernel
theorem dX8_rewrite_170 : decode cX8_rewrite 170 = .ok (.aload_n 0, 1) := by decide +kernel
theorem dX8_rewrite_171 : decode cX8_rewrite 171 = .ok (.getfield 21, 3) := by decide +kernel
theorem dX8_rewrite_174 : decode cX8_rewrite 174 = .ok (.invokevirtual 167, 3) := by decide +kernel
theorem dX8_rewrite_177 : decode cX8_rewrite 177 = .ok (.istore 5, 2) := by decide +kernel
theorem dX8_rewrite_179 : decode cX8_rewrite 179 = .ok (.iload 5, 2) := by decide +kernel
theorem dX8_rewrite_181 : decode cX8_rewrite 181 = .ok (.ifCond .ge 5, 3) := by decide +kernel
theorem dX8_rewrite_184 : decode cX8_rewrite 184 = .ok (.iconst 0, 1) := by decide +kernel
theorem dX8_rewrite_185 : decode cX8_rewrite 185 = .ok (.ireturn, 1) := by decide +kernel
theorem dX8_rewrite_186 : decode cX8_rewrite 186 = .ok (.aload_n 0, 1) := by decide +kernel
theorem dX8_rewrite_187 : decode cX8_rewrite 187 = .ok (.getfield 41, 3) := by decide +kernel
theorem dX8_rewrite_190 : decode cX8_rewrite 190 = .ok (.iload_n 2, 1) := by decide +kernel
theorem dX8_rewrite_191 : decode cX8_rewrite 191 = .ok (.iconst 0, 1) := by decide +kernel
theorem dX8_rewrite_192 : decode cX8_rewrite 192 = .ok (.iastore, 1) := by decide +kernel
theorem dX8_rewrite_193 : decode cX8_rewrite 193 = .ok (.aload_n 0, 1) := by decide +kernel
theorem dX8_rewrite_194 : decode cX8_rewrite 194 = .ok (.getfield 37, 3) := by decide +kernel
theorem dX8_rewrite_197 : decode cX8_rewrite 197 = .ok (.iload_n 2, 1) := by decide +kernel
theorem dX8_rewrite_198 : decode cX8_rewrite 198 = .ok (.iload 5, 2) := by decide +kernel
theorem dX8_rewrite_200 : decode cX8_rewrite 200 = .ok (.iastore, 1) := by decide +kernel
theorem dX8_rewrite_201 : decode cX8_rewrite 201 = .ok (.iconst 1, 1) := by decide +kernel
theorem dX8_rewrite_202 : decode cX8_rewrite 202 = .ok (.ireturn, 1) := by decide +kernel
def P_X8_rewrite_97 (sh : gS) (Q : Option gV → gS → gM → Prop) (x1 x2 x3 s0 : Int) (M : gM) : Prop := gA (gr 4 137) yX8_rewrite cX8_rewrite 6 (some (.boolean)) Q (0, 0) 97 [(4, 3), (4, x1), (0, x2), (0, x3), (9, 0), (9, 0)] [(0, s0)] sh M
def P_X8_rewrite_128 (sh : gS) (Q : Option gV → gS → gM → Prop) (x1 x2 x3 x4 s1 s2 : Int) (M : gM) : Prop := gA (gr 4 137) yX8_rewrite cX8_rewrite 6 (some (.boolean)) Q (0, 0) 128 [(4, 3), (4, x1), (0, x2), (0, x3), (0, x4), (9, 0)] [(0, s2), (0, s1), (4, 396)] sh M
theorem w_X8_rewrite_97 {sh : gS} {Q : Option gV → gS → gM → Prop} {x1 x2 x3 s0 : Int} {M : gM} (hOK : gOK sh M) (h : (if s0 = 0 then
    (∃ v107 : Int, gC (gr 0 0) yX8_isSkipped cX8_isSkipped 4 (some (.boolean)) [(4, 3), (4, x1), (0, x2)] sh M (gPp sh M (0, v107)) ∧
      (if v107 = 0 then
        (∃ P163 : Option gV → gM → Prop, gC (gr 2 51) yX8_carryMessage cX8_carryMessage 11 none [(4, 3), (4, x1), (0, x2)] sh M (gPm sh P163) ∧ ∀ (r163 : Option gV) (M163 : gM), P163 r163 M163 → r163 = none ∧ gOK sh M163 ∧
          (∃ P174 : Option gV → gM → Prop, gC (gr 3 114) yX1_settle cX1_settle 4 (some (.int)) [(4, 4), (4, 380)] sh M163 (gPm sh P174) ∧ ∀ (r174 : Option gV) (M174 : gM), P174 r174 M174 → ∃ v174 : Int, r174 = some (0, v174) ∧ gOK sh M174 ∧
            (if v174 < 0 then
              (Q (some (0, 0)) sh M174)
            else
              ((0 ≤ x2 ∧ x2 < 120) ∧
                (Q (some (0, 1)) sh (gU (gU M174 396 x2 0) 395 x2 v174))))))
      else
        (if s0 = 0 then
          (P_X8_rewrite_128 sh Q x1 x2 x3 s0 x2 2 M)
        else
          (P_X8_rewrite_128 sh Q x1 x2 x3 s0 x2 1 M))))
  else
    (if s0 = 0 then
      (P_X8_rewrite_128 sh Q x1 x2 x3 s0 x2 2 M)
    else
      (P_X8_rewrite_128 sh Q x1 x2 x3 s0 x2 1 M)))) : P_X8_rewrite_97 sh Q x1 x2 x3 s0 M := by
  unfold P_X8_rewrite_97
  refine g_istore (q0 := 99) (j := 4) (lv2 := [_, _, _, _, _, _]) rfl dX8_rewrite_97 (by decide) rfl rfl ?_
  refine g_iload (q0 := 101) (j := 4) rfl dX8_rewrite_99 rfl ?_
  refine g_if_ne (q0 := 104) (tgt := 113) rfl dX8_rewrite_101 (by decide) (fun h101 => ?_) (fun h101 => ?_)
  · replace h := wI_neg h101 h
    refine g_aload_n (q0 := 114) (j := 0) rfl dX8_rewrite_113 rfl ?_
    refine g_getp (q0 := 117) (b := 396) rfl ff_X8_41 dX8_rewrite_114 rfl hOK (by decide) (sh_3 hOK) rfl (by decide) ?_
    refine g_iload_n (q0 := 118) (j := 2) rfl dX8_rewrite_117 rfl ?_
    refine g_iload (q0 := 120) (j := 4) rfl dX8_rewrite_118 rfl ?_
    refine g_if_eq (q0 := 123) (tgt := 127) rfl dX8_rewrite_120 (by decide) (fun h120 => ?_) (fun h120 => ?_)
    · replace h := wI_pos h120 h
      refine g_iconst (q0 := 128) rfl dX8_rewrite_127 (k := ?_)
      exact h
    · replace h := wI_neg h120 h
      refine g_iconst (q0 := 124) rfl dX8_rewrite_123 (k := ?_)
      refine g_goto (tgt := 128) dX8_rewrite_124 (by decide) ?_
      exact h
  · replace h := wI_pos h101 h
    refine g_aload_n (q0 := 105) (j := 0) rfl dX8_rewrite_104 rfl ?_
    refine g_aload_n (q0 := 106) (j := 1) rfl dX8_rewrite_105 rfl ?_
    refine g_iload_n (q0 := 107) (j := 2) rfl dX8_rewrite_106 rfl ?_
    obtain ⟨v107, e107, h⟩ := h
    refine g_callVp (as := [_, _]) (rest := []) mt_X8_isSkipped mi_X8_isSkipped se_X8_isSkipped ml_X8_155 dX8_rewrite_107 (q0 := 110) rfl rfl (sh_3 hOK) rfl rfl e107 rfl ⟨by decide, by decide⟩ (Nat.le_of_ble_eq_true rfl) ⟨Nat.zero_le _, Nat.zero_le _⟩ (fun _ => ?_)
    refine g_if_eq (q0 := 113) (tgt := 160) rfl dX8_rewrite_110 (by decide) (fun h110 => ?_) (fun h110 => ?_)
    · replace h := wI_pos h110 h
      refine g_aload_n (q0 := 161) (j := 0) rfl dX8_rewrite_160 rfl ?_
      refine g_aload_n (q0 := 162) (j := 1) rfl dX8_rewrite_161 rfl ?_
      refine g_iload_n (q0 := 163) (j := 2) rfl dX8_rewrite_162 rfl ?_
      obtain ⟨P163, e163, h⟩ := h
      refine g_callVm (as := [_, _]) (rest := []) mt_X8_carryMessage mi_X8_carryMessage se_X8_carryMessage ml_X8_164 dX8_rewrite_163 (q0 := 166) rfl rfl (sh_3 hOK) rfl rfl e163 rfl ⟨by decide, by decide⟩ (Nat.le_of_ble_eq_true rfl) ⟨Nat.zero_le _, Nat.zero_le _⟩ (fun r163 M163 hP163 hw163 hMw163 => ?_)
      obtain ⟨hr163, hOK1, h⟩ := h r163 M163 hP163
      subst hr163
      refine g_aload_n (q0 := 167) (j := 0) rfl dX8_rewrite_166 rfl ?_
      refine g_getp (q0 := 170) (b := 4) rfl ff_X8_12 dX8_rewrite_167 rfl hOK1 (by decide) (sh_3 hOK1) rfl (by decide) ?_
      refine g_aload_n (q0 := 171) (j := 0) rfl dX8_rewrite_170 rfl ?_
      refine g_getp (q0 := 174) (b := 380) rfl ff_X8_21 dX8_rewrite_171 rfl hOK1 (by decide) (sh_3 hOK1) rfl (by decide) ?_
      obtain ⟨P174, e174, h⟩ := h
      refine g_callVm (as := [_]) (rest := []) mt_X1_settle mi_X1_settle se_X1_settle ml_X8_167 dX8_rewrite_174 (q0 := 177) rfl rfl (sh_4 hOK1) rfl rfl e174 rfl ⟨by decide, by decide⟩ (Nat.le_of_ble_eq_true rfl) ⟨Nat.zero_le _, Nat.zero_le _⟩ (fun r174 M174 hP174 hw174 hMw174 => ?_)
      obtain ⟨v174, hr174, hOK2, h⟩ := h r174 M174 hP174
      subst hr174
      refine g_istore (q0 := 179) (j := 5) (lv2 := [_, _, _, _, _, _]) rfl dX8_rewrite_177 (by decide) rfl rfl ?_
      refine g_iload (q0 := 181) (j := 5) rfl dX8_rewrite_179 rfl ?_
      refine g_if_ge (q0 := 184) (tgt := 186) rfl dX8_rewrite_181 (by decide) (fun h181 => ?_) (fun h181 => ?_)
      · replace h := wI_neg (Int.not_lt.mpr h181) h
        refine g_aload_n (q0 := 187) (j := 0) rfl dX8_rewrite_186 rfl ?_
        refine g_getp (q0 := 190) (b := 396) rfl ff_X8_41 dX8_rewrite_187 rfl hOK2 (by decide) (sh_3 hOK2) rfl (by decide) ?_
        refine g_iload_n (q0 := 191) (j := 2) rfl dX8_rewrite_190 rfl ?_
        refine g_iconst (q0 := 192) rfl dX8_rewrite_191 (k := ?_)
        obtain ⟨g3, h⟩ := h
        refine g_iast (q0 := 193) rfl dX8_rewrite_192 (sh_396 hOK2) g3.1 g3.2 ?_
        have hOK4 : gOK sh (gU M174 396 x2 0) := gOK_i hOK2 (sh_396 hOK2)
        refine g_aload_n (q0 := 194) (j := 0) rfl dX8_rewrite_193 rfl ?_
        refine g_getp (q0 := 197) (b := 395) rfl ff_X8_37 dX8_rewrite_194 rfl hOK4 (by decide) (sh_3 hOK4) rfl (by decide) ?_
        refine g_iload_n (q0 := 198) (j := 2) rfl dX8_rewrite_197 rfl ?_
        refine g_iload (q0 := 200) (j := 5) rfl dX8_rewrite_198 rfl ?_
        refine g_iast (q0 := 201) rfl dX8_rewrite_200 (sh_395 hOK4) g3.1 g3.2 ?_
        have hOK5 : gOK sh (gU (gU M174 396 x2 0) 395 x2 v174) := gOK_i hOK4 (sh_395 hOK4)
        refine g_iconst (q0 := 202) rfl dX8_rewrite_201 (k := ?_)
        exact g_zreturn dX8_rewrite_202 rfl (gnz (Or.inr rfl)) ⟨Nat.zero_le _, Nat.zero_le _⟩ h
      · replace h := wI_pos h181 h
        refine g_iconst (q0 := 185) rfl dX8_rewrite_184 (k := ?_)
        exact g_zreturn dX8_rewrite_185 rfl (gnz (Or.inl rfl)) ⟨Nat.zero_le _, Nat.zero_le _⟩ h
    · replace h := wI_neg h110 h
      refine g_aload_n (q0 := 114) (j := 0) rfl dX8_rewrite_113 rfl ?_
      refine g_getp (q0 := 117) (b := 396) rfl ff_X8_41 dX8_rewrite_114 rfl hOK (by decide) (sh_3 hOK) rfl (by decide) ?_
      refine g_iload_n (q0 := 118) (j := 2) rfl dX8_rewrite_117 rfl ?_
      refine g_iload (q0 := 120) (j := 4) rfl dX8_rewrite_118 rfl ?_
      refine g_if_eq (q0 := 123) (tgt := 127) rfl dX8_rewrite_120 (by decide) (fun h120 => ?_) (fun h120 => ?_)
      · replace h := wI_pos h120 h
        refine g_iconst (q0 := 128) rfl dX8_rewrite_127 (k := ?_)
        exact h
      · replace h := wI_neg h120 h
        refine g_iconst (q0 := 124) rfl dX8_rewrite_123 (k := ?_)
        refine g_goto (tgt := 128) dX8_rewrite_124 (by decide) ?_
        exact h
theorem w_X8_rewrite_128 {sh : gS} {Q : Option gV → gS → gM → Prop} {x1 x2 x3 x4 s1 s2 : Int} {M : gM} (hOK : gOK sh M) (h : ((0 ≤ s1 ∧ s1 < 120) ∧
    (if ((gU M 396 s1 s2) 380 1) = 0 then
      ((0 ≤ x2 ∧ x2 < 120) ∧
        (Q (some (0, 1)) sh (gU (gU M 396 s1 s2) 395 x2 (-1))))
    else
      ((0 ≤ x2 ∧ x2 < 120) ∧
        (Q (some (0, 1)) sh (gU (gU M 396 s1 s2) 395 x2 ((gU M 396 s1 s2) 381 0))))))) : P_X8_rewrite_128 sh Q x1 x2 x3 x4 s1 s2 M := by
  unfold P_X8_rewrite_128
  obtain ⟨g6, h⟩ := h
  refine g_iast (q0 := 129) rfl dX8_rewrite_128 (sh_396 hOK) g6.1 g6.2 ?_
  have hOK7 : gOK sh (gU M 396 s1 s2) := gOK_i hOK (sh_396 hOK)
  refine g_aload_n (q0 := 130) (j := 0) rfl dX8_rewrite_129 rfl ?_
  refine g_getp (q0 := 133) (b := 395) rfl ff_X8_37 dX8_rewrite_130 rfl hOK7 (by decide) (sh_3 hOK7) rfl (by decide) ?_
  refine g_iload_n (q0 := 134) (j := 2) rfl dX8_rewrite_133 rfl ?_
  refine g_aload_n (q0 := 135) (j := 0) rfl dX8_rewrite_134 rfl ?_
  refine g_getp (q0 := 138) (b := 380) rfl ff_X8_21 dX8_rewrite_135 rfl hOK7 (by decide) (sh_3 hOK7) rfl (by decide) ?_
  refine g_getf (q0 := 141) (t := 0) (fi := 1) rfl rfl ff_X8_158 dX8_rewrite_138 rfl (sh_380 hOK7) ?_
  refine g_if_ne (q0 := 144) (tgt := 148) rfl dX8_rewrite_141 (by decide) (fun h141 => ?_) (fun h141 => ?_)
  · replace h := wI_neg h141 h
    refine g_aload_n (q0 := 149) (j := 0) rfl dX8_rewrite_148 rfl ?_
    refine g_getp (q0 := 152) (b := 380) rfl ff_X8_21 dX8_rewrite_149 rfl hOK7 (by decide) (sh_3 hOK7) rfl (by decide) ?_
    refine g_getp (q0 := 155) (b := 381) rfl ff_X8_161 dX8_rewrite_152 rfl hOK7 (by decide) (sh_380 hOK7) rfl (by decide) ?_
    refine g_iconst (q0 := 156) rfl dX8_rewrite_155 (k := ?_)
    refine g_iald (q0 := 157) rfl dX8_rewrite_156 (sh_381 hOK7) (by decide) (by decide) ?_
    obtain ⟨g8, h⟩ := h
    refine g_iast (q0 := 158) rfl dX8_rewrite_157 (sh_395 hOK7) g8.1 g8.2 ?_
    have hOK9 : gOK sh (gU (gU M 396 s1 s2) 395 x2 ((gU M 396 s1 s2) 381 0)) := gOK_i hOK7 (sh_395 hOK7)
    refine g_iconst (q0 := 159) rfl dX8_rewrite_158 (k := ?_)
    exact g_zreturn dX8_rewrite_159 rfl (gnz (Or.inr rfl)) ⟨Nat.zero_le _, Nat.zero_le _⟩ h
  · replace h := wI_pos h141 h
    refine g_iconst (q0 := 145) rfl dX8_rewrite_144 (k := ?_)
    refine g_goto (tgt := 157) dX8_rewrite_145 (by decide) ?_
    obtain ⟨g10, h⟩ := h
    refine g_iast (q0 := 158) rfl dX8_rewrite_157 (sh_395 hOK7) g10.1 g10.2 ?_
    have hOK11 : gOK sh (gU (gU M 396 s1 s2) 395 x2 (-1)) := gOK_i hOK7 (sh_395 hOK7)
    refine g_iconst (q0 := 159) rfl dX8_rewrite_158 (k := ?_)
    exact g_zreturn dX8_rewrite_159 rfl (gnz (Or.inr rfl)) ⟨Nat.zero_le _, Nat.zero_le _⟩ h
theorem w_X8_rewrite {sh : gS} {Q : Option gV → gS → gM → Prop} {a1 a2 : Int} {M : gM} (hOK : gOK sh M) (h : ((gsh sh a1 = some (0, 6) ∧ a1 < 758) ∧
    ((0 ≤ a2 ∧ a2 < 120) ∧
      ((gsh sh (a1 + 19) = some (0, 5) ∧ (a1 + 19) < 758) ∧
        (∃ v13 : Int, gC (gr 1 22) yX4_exchanged cX4_exchanged 3 (some (.int)) [(4, (a1 + 19)), (0, (M 11 a2))] sh M (gPp sh M (0, v13)) ∧
          (∃ P31 : Option gV → gM → Prop, gC (gr 0 0) yX2_begin cX2_begin 3 none [(4, 380), (0, v13), (0, (M 12 a2))] sh M (gPm sh P31) ∧ ∀ (r31 : Option gV) (M31 : gM), P31 r31 M31 → r31 = none ∧ gOK sh M31 ∧
            (∃ v41 : Int, gC (gr 0 0) yX1_tree cX1_tree 2 (some (.object "CarriedHistory$Tree")) [(4, 4), (0, a2)] sh M31 (gPp sh M31 (4, v41)) ∧
              (∃ P44 : Option gV → gM → Prop, gC (gr 3 73) yX8_carryTree cX8_carryTree 8 none [(4, 3), (4, a1), (4, v41)] sh M31 (gPm sh P44) ∧ ∀ (r44 : Option gV) (M44 : gM), P44 r44 M44 → r44 = none ∧ gOK sh M44 ∧
                (∃ P50 : Option gV → gM → Prop, gC (gr 2 46) yX8_gatherParents cX8_gatherParents 7 none [(4, 3), (4, a1), (0, a2)] sh M44 (gPm sh P50) ∧ ∀ (r50 : Option gV) (M50 : gM), P50 r50 M50 → r50 = none ∧ gOK sh M50 ∧
                  (∃ P58 : Option gV → gM → Prop, gC (gr 3 68) yX8_thinParents cX8_thinParents 4 none [(4, 3), (0, (M50 a1 12))] sh M50 (gPm sh P58) ∧ ∀ (r58 : Option gV) (M58 : gM), P58 r58 M58 → r58 = none ∧ gOK sh M58 ∧
                    (if (0 : Int) < (M58 a1 13) then
                      (∃ v69 : Int, gC (gr 1 22) yX8_bringsNothing cX8_bringsNothing 1 (some (.boolean)) [(4, 3)] sh M58 (gPp sh M58 (0, v69)) ∧
                        (if v69 = 0 then
                          (P_X8_rewrite_97 sh Q a1 a2 v13 0 M58)
                        else
                          (if (M58 a1 13) = 2 then
                            (P_X8_rewrite_97 sh Q a1 a2 v13 1 M58)
                          else
                            (∃ v86 : Int, gC (gr 2 46) yX8_isEmptyByItself cX8_isEmptyByItself 4 (some (.boolean)) [(4, 3), (4, a1), (0, a2)] sh M58 (gPp sh M58 (0, v86)) ∧
                              (if v86 = 0 then
                                (P_X8_rewrite_97 sh Q a1 a2 v13 1 M58)
                              else
                                (P_X8_rewrite_97 sh Q a1 a2 v13 0 M58))))))
                    else
                      (P_X8_rewrite_97 sh Q a1 a2 v13 0 M58)))))))))))) : gC (gr 4 137) yX8_rewrite cX8_rewrite 6 (some (.boolean)) [(4, 3), (4, a1), (0, a2)] sh M Q := by
  refine gC_ofA (lv := [_, _, _, _, _, _]) (by decide +kernel) (Nat.le_of_ble_eq_true rfl) rfl (fun hMw hav => ?_)
  refine g_aload_n (q0 := 1) (j := 1) rfl dX8_rewrite_0 rfl ?_
  obtain ⟨g12, h⟩ := h
  refine g_getp (q0 := 4) (b := (a1 + 19)) rfl ff_X8_108 dX8_rewrite_1 rfl hOK g12.2 g12.1 rfl rfl ?_
  refine g_aload_n (q0 := 5) (j := 0) rfl dX8_rewrite_4 rfl ?_
  refine g_getp (q0 := 8) (b := 4) rfl ff_X8_12 dX8_rewrite_5 rfl hOK (by decide) (sh_3 hOK) rfl (by decide) ?_
  refine g_getp (q0 := 11) (b := 11) rfl ff_X8_112 dX8_rewrite_8 rfl hOK (by decide) (sh_4 hOK) rfl (by decide) ?_
  refine g_iload_n (q0 := 12) (j := 2) rfl dX8_rewrite_11 rfl ?_
  obtain ⟨g13, h⟩ := h
  refine g_iald (q0 := 13) rfl dX8_rewrite_12 (sh_11 hOK) g13.1 g13.2 ?_
  obtain ⟨g14, h⟩ := h
  obtain ⟨v13, e13, h⟩ := h
  refine g_callVp (as := [_]) (rest := []) mt_X4_exchanged mi_X4_exchanged se_X4_exchanged ml_X8_115 dX8_rewrite_13 (q0 := 16) rfl rfl g14.1 rfl rfl e13 rfl ⟨by decide, by decide⟩ (Nat.le_of_ble_eq_true rfl) ⟨Nat.zero_le _, Nat.zero_le _⟩ (fun _ => ?_)
  refine g_istore_n (q0 := 17) (j := 3) (lv2 := [_, _, _, _, _, _]) rfl dX8_rewrite_16 (by decide) rfl rfl ?_
  refine g_aload_n (q0 := 18) (j := 0) rfl dX8_rewrite_17 rfl ?_
  refine g_getp (q0 := 21) (b := 380) rfl ff_X8_21 dX8_rewrite_18 rfl hOK (by decide) (sh_3 hOK) rfl (by decide) ?_
  refine g_iload_n (q0 := 22) (j := 3) rfl dX8_rewrite_21 rfl ?_
  refine g_aload_n (q0 := 23) (j := 0) rfl dX8_rewrite_22 rfl ?_
  refine g_getp (q0 := 26) (b := 4) rfl ff_X8_12 dX8_rewrite_23 rfl hOK (by decide) (sh_3 hOK) rfl (by decide) ?_
  refine g_getp (q0 := 29) (b := 12) rfl ff_X8_121 dX8_rewrite_26 rfl hOK (by decide) (sh_4 hOK) rfl (by decide) ?_
  refine g_iload_n (q0 := 30) (j := 2) rfl dX8_rewrite_29 rfl ?_
  refine g_iald (q0 := 31) rfl dX8_rewrite_30 (sh_12 hOK) g13.1 g13.2 ?_
  obtain ⟨P31, e31, h⟩ := h
  refine g_callVm (as := [_, _]) (rest := []) mt_X2_begin mi_X2_begin se_X2_begin ml_X8_124 dX8_rewrite_31 (q0 := 34) rfl rfl (sh_380 hOK) rfl rfl e31 rfl ⟨by decide, by decide⟩ (Nat.le_of_ble_eq_true rfl) ⟨Nat.zero_le _, Nat.zero_le _⟩ (fun r31 M31 hP31 hw31 hMw31 => ?_)
  obtain ⟨hr31, hOK15, h⟩ := h r31 M31 hP31
  subst hr31
  refine g_aload_n (q0 := 35) (j := 0) rfl dX8_rewrite_34 rfl ?_
  refine g_aload_n (q0 := 36) (j := 1) rfl dX8_rewrite_35 rfl ?_
  refine g_aload_n (q0 := 37) (j := 0) rfl dX8_rewrite_36 rfl ?_
  refine g_getp (q0 := 40) (b := 4) rfl ff_X8_12 dX8_rewrite_37 rfl hOK15 (by decide) (sh_3 hOK15) rfl (by decide) ?_
  refine g_iload_n (q0 := 41) (j := 2) rfl dX8_rewrite_40 rfl ?_
  obtain ⟨v41, e41, h⟩ := h
  refine g_callVp (as := [_]) (rest := [_, _]) mt_X1_tree mi_X1_tree se_X1_tree ml_X8_127 dX8_rewrite_41 (q0 := 44) rfl rfl (sh_4 hOK15) rfl rfl e41 rfl ⟨by decide, by decide⟩ (Nat.le_of_ble_eq_true rfl) ⟨Nat.zero_le _, Nat.zero_le _⟩ (fun _ => ?_)
  obtain ⟨P44, e44, h⟩ := h
  refine g_callVm (as := [_, _]) (rest := []) mt_X8_carryTree mi_X8_carryTree se_X8_carryTree ml_X8_130 dX8_rewrite_44 (q0 := 47) rfl rfl (sh_3 hOK15) rfl rfl e44 rfl ⟨by decide, by decide⟩ (Nat.le_of_ble_eq_true rfl) ⟨Nat.zero_le _, Nat.zero_le _⟩ (fun r44 M44 hP44 hw44 hMw44 => ?_)
  obtain ⟨hr44, hOK16, h⟩ := h r44 M44 hP44
  subst hr44
  refine g_aload_n (q0 := 48) (j := 0) rfl dX8_rewrite_47 rfl ?_
  refine g_aload_n (q0 := 49) (j := 1) rfl dX8_rewrite_48 rfl ?_
  refine g_iload_n (q0 := 50) (j := 2) rfl dX8_rewrite_49 rfl ?_
  obtain ⟨P50, e50, h⟩ := h
  refine g_callVm (as := [_, _]) (rest := []) mt_X8_gatherParents mi_X8_gatherParents se_X8_gatherParents ml_X8_134 dX8_rewrite_50 (q0 := 53) rfl rfl (sh_3 hOK16) rfl rfl e50 rfl ⟨by decide, by decide⟩ (Nat.le_of_ble_eq_true rfl) ⟨Nat.zero_le _, Nat.zero_le _⟩ (fun r50 M50 hP50 hw50 hMw50 => ?_)
  obtain ⟨hr50, hOK17, h⟩ := h r50 M50 hP50
  subst hr50
  refine g_aload_n (q0 := 54) (j := 0) rfl dX8_rewrite_53 rfl ?_
  refine g_aload_n (q0 := 55) (j := 1) rfl dX8_rewrite_54 rfl ?_
  refine g_getf (q0 := 58) (t := 0) (fi := 12) rfl rfl ff_X8_138 dX8_rewrite_55 rfl g12.1 ?_
  obtain ⟨P58, e58, h⟩ := h
  refine g_callVm (as := [_]) (rest := []) mt_X8_thinParents mi_X8_thinParents se_X8_thinParents ml_X8_141 dX8_rewrite_58 (q0 := 61) rfl rfl (sh_3 hOK17) rfl rfl e58 rfl ⟨by decide, by decide⟩ (Nat.le_of_ble_eq_true rfl) ⟨Nat.zero_le _, Nat.zero_le _⟩ (fun r58 M58 hP58 hw58 hMw58 => ?_)
  obtain ⟨hr58, hOK18, h⟩ := h r58 M58 hP58
  subst hr58
  refine g_aload_n (q0 := 62) (j := 1) rfl dX8_rewrite_61 rfl ?_
  refine g_getf (q0 := 65) (t := 0) (fi := 13) rfl rfl ff_X8_144 dX8_rewrite_62 rfl g12.1 ?_
  refine g_if_le (q0 := 68) (tgt := 96) rfl dX8_rewrite_65 (by decide) (fun h65 => ?_) (fun h65 => ?_)
  · replace h := wI_neg (Int.not_lt.mpr h65) h
    refine g_iconst (q0 := 97) rfl dX8_rewrite_96 (k := ?_)
    exact h
  · replace h := wI_pos h65 h
    refine g_aload_n (q0 := 69) (j := 0) rfl dX8_rewrite_68 rfl ?_
    obtain ⟨v69, e69, h⟩ := h
    refine g_callVp (as := []) (rest := []) mt_X8_bringsNothing mi_X8_bringsNothing se_X8_bringsNothing ml_X8_147 dX8_rewrite_69 (q0 := 72) rfl rfl (sh_3 hOK18) rfl rfl e69 rfl ⟨by decide, by decide⟩ (Nat.le_of_ble_eq_true rfl) ⟨Nat.zero_le _, Nat.zero_le _⟩ (fun _ => ?_)
    refine g_if_eq (q0 := 75) (tgt := 96) rfl dX8_rewrite_72 (by decide) (fun h72 => ?_) (fun h72 => ?_)
    · replace h := wI_pos h72 h
      refine g_iconst (q0 := 97) rfl dX8_rewrite_96 (k := ?_)
      exact h
    · replace h := wI_neg h72 h
      refine g_aload_n (q0 := 76) (j := 1) rfl dX8_rewrite_75 rfl ?_
      refine g_getf (q0 := 79) (t := 0) (fi := 13) rfl rfl ff_X8_144 dX8_rewrite_76 rfl g12.1 ?_
      refine g_iconst (q0 := 80) rfl dX8_rewrite_79 (k := ?_)
      refine g_icmp_eq (q0 := 83) (tgt := 92) rfl dX8_rewrite_80 (by decide) (fun h80 => ?_) (fun h80 => ?_)
      · replace h := wI_pos h80 h
        refine g_iconst (q0 := 93) rfl dX8_rewrite_92 (k := ?_)
        refine g_goto (tgt := 97) dX8_rewrite_93 (by decide) ?_
        exact h
      · replace h := wI_neg h80 h
        refine g_aload_n (q0 := 84) (j := 0) rfl dX8_rewrite_83 rfl ?_
        refine g_aload_n (q0 := 85) (j := 1) rfl dX8_rewrite_84 rfl ?_
        refine g_iload_n (q0 := 86) (j := 2) rfl dX8_rewrite_85 rfl ?_
        obtain ⟨v86, e86, h⟩ := h
        refine g_callVp (as := [_, _]) (rest := []) mt_X8_isEmptyByItself mi_X8_isEmptyByItself se_X8_isEmptyByItself ml_X8_151 dX8_rewrite_86 (q0 := 89) rfl rfl (sh_3 hOK18) rfl rfl e86 rfl ⟨by decide, by decide⟩ (Nat.le_of_ble_eq_true rfl) ⟨Nat.zero_le _, Nat.zero_le _⟩ (fun _ => ?_)
        refine g_if_ne (q0 := 92) (tgt := 96) rfl dX8_rewrite_89 (by decide) (fun h89 => ?_) (fun h89 => ?_)
        · replace h := wI_neg h89 h
          refine g_iconst (q0 := 97) rfl dX8_rewrite_96 (k := ?_)
          exact h
        · replace h := wI_pos h89 h
          refine g_iconst (q0 := 93) rfl dX8_rewrite_92 (k := ?_)
          refine g_goto (tgt := 97) dX8_rewrite_93 (by decide) ?_
          exact h
-- ==== X8_thinParents
theorem dX8_thinParents_0 : decode cX8_thinParents 0 = .ok (.aload_n 0, 1) := by decide +kernel
theorem dX8_thinParents_1 : decode cX8_thinParents 1 = .ok (.getfield 21, 3) := by decide +kernel
theorem dX8_thinParents_4 : decode cX8_thinParents 4 = .ok (.getfield 158, 3) := by decide +kernel
theorem dX8_thinParents_7 : decode cX8_thinParents 7 = .ok (.istore_n 2, 1) := by decide +kernel
theorem dX8_thinParents_8 : decode cX8_thinParents 8 = .ok (.iconst 0, 1) := by decide +kernel
theorem dX8_thinParents_9 : decode cX8_thinParents 9 = .ok (.istore_n 3, 1) := by decide +kernel
theorem dX8_thinParents_10 : decode cX8_thinParents 10 = .ok (.iload_n 3, 1) := by decide +kernel
theorem dX8_thinParents_11 : decode cX8_thinParents 11 = .ok (.iload_n 2, 1) := by decide +kernel
theorem dX8_thinParents_12 : decode cX8_thinParents 12 = .ok (.if_icmp .ge 42, 3) := by decide +kernel
theorem dX8_thinParents_15 : decode cX8_thinParents 15 = .ok (.aload_n 0, 1) := by decide +kernel
theorem dX8_thinParents_16 : decode cX8_thinParents 16 = .ok (.getfield 47, 3) := by decide +kernel
theorem dX8_thinParents_19 : decode cX8_thinParents 19 = .ok (.iload_n 3, 1) := by decide +kernel
theorem dX8_thinParents_20 : decode cX8_thinParents 20 = .ok (.iload_n 1, 1) := by decide +kernel
theorem dX8_thinParents_21 : decode cX8_thinParents 21 = .ok (.ifCond .le 25, 3) := by decide +kernel
theorem dX8_thinParents_24 : decode cX8_thinParents 24 = .ok (.aload_n 0, 1) := by decide +kernel
theorem dX8_thinParents_25 : decode cX8_thinParents 25 = .ok (.iload_n 3, 1) := by decide +kernel
theorem dX8_thinParents_26 : decode cX8_thinParents 26 = .ok (.iload_n 1, 1) := by decide +kernel
theorem dX8_thinParents_27 : decode cX8_thinParents 27 = .ok (.iconst 1, 1) := by decide +kernel
theorem dX8_thinParents_28 : decode cX8_thinParents 28 = .ok (.if_icmp .ne 7, 3) := by decide +kernel
theorem dX8_thinParents_31 : decode cX8_thinParents 31 = .ok (.iconst 1, 1) := by decide +kernel
theorem dX8_thinParents_32 : decode cX8_thinParents 32 = .ok (.goto 4, 3) := by decide +kernel
theorem dX8_thinParents_35 : decode cX8_thinParents 35 = .ok (.iconst 0, 1) := by decide +kernel
theorem dX8_thinParents_36 : decode cX8_thinParents 36 = .ok (.invokevirtual 221, 3) := by decide +kernel
theorem dX8_thinParents_39 : decode cX8_thinParents 39 = .ok (.ifCond .eq 7, 3) := by decide +kernel
theorem dX8_thinParents_42 : decode cX8_thinParents 42 = .ok (.iconst 1, 1) := by decide +kernel
theorem dX8_thinParents_43 : decode cX8_thinParents 43 = .ok (.goto 4, 3) := by decide +kernel
theorem dX8_thinParents_46 : decode cX8_thinParents 46 = .ok (.iconst 0, 1) := by decide +kernel
theorem dX8_thinParents_47 : decode cX8_thinParents 47 = .ok (.bastore, 1) := by decide +kernel
theorem dX8_thinParents_48 : decode cX8_thinParents 48 = .ok (.iinc 3 1, 3) := by decide +kernel
theorem dX8_thinParents_51 : decode cX8_thinParents 51 = .ok (.goto (-41), 3) := by decide +kernel
theorem dX8_thinParents_54 : decode cX8_thinParents 54 = .ok (.aload_n 0, 1) := by decide +kernel
theorem dX8_thinParents_55 : decode cX8_thinParents 55 = .ok (.getfield 21, 3) := by decide +kernel
theorem dX8_thinParents_58 : decode cX8_thinParents 58 = .ok (.iconst 0, 1) := by decide +kernel
theorem dX8_thinParents_59 : decode cX8_thinParents 59 = .ok (.putfield 158, 3) := by decide +kernel
theorem dX8_thinParents_62 : decode cX8_thinParents 62 = .ok (.iconst 0, 1) := by decide +kernel
theorem dX8_thinParents_63 : decode cX8_thinParents 63 = .ok (.istore_n 3, 1) := by decide +kernel
theorem dX8_thinParents_64 : decode cX8_thinParents 64 = .ok (.iload_n 3, 1) := by decide +kernel
theorem dX8_thinParents_65 : decode cX8_thinParents 65 = .ok (.iload_n 2, 1) := by decide +kernel
theorem dX8_thinParents_66 : decode cX8_thinParents 66 = .ok (.if_icmp .ge 34, 3) := by decide +kernel
theorem dX8_thinParents_69 : decode cX8_thinParents 69 = .ok (.aload_n 0, 1) := by decide +kernel
theorem dX8_thinParents_70 : decode cX8_thinParents 70 = .ok (.getfield 47, 3) := by decide +kernel
theorem dX8_thinParents_73 : decode cX8_thinParents 73 = .ok (.iload_n 3, 1) := by decide +kernel
theorem dX8_thinParents_74 : decode cX8_thinParents 74 = .ok (.baload, 1) := by decide +kernel
theorem dX8_thinParents_75 : decode cX8_thinParents 75 = .ok (.ifCond .ne 19, 3) := by decide +kernel
theorem dX8_thinParents_78 : decode cX8_thinParents 78 = .ok (.aload_n 0, 1) := by decide +kernel
theorem dX8_thinParents_79 : decode cX8_thinParents 79 = .ok (.getfield 21, 3) := by decide +kernel
theorem dX8_thinParents_82 : decode cX8_thinParents 82 = .ok (.aload_n 0, 1) := by decide +kernel
theorem dX8_thinParents_83 : decode cX8_thinParents 83 = .ok (.getfield 21, 3) := by decide +kernel
theorem dX8_thinParents_86 : decode cX8_thinParents 86 = .ok (.getfield 161, 3) := by decide +kernel
theorem dX8_thinParents_89 : decode cX8_thinParents 89 = .ok (.iload_n 3, 1) := by decide +kernel
theorem dX8_thinParents_90 : decode cX8_thinParents 90 = .ok (.iaload, 1) := by decide +kernel
theorem dX8_thinParents_91 : decode cX8_thinParents 91 = .ok (.invokevirtual 218, 3) := by decide +kernel
theorem dX8_thinParents_94 : decode cX8_thinParents 94 = .ok (.iinc 3 1, 3) := by decide +kernel
theorem dX8_thinParents_97 : decode cX8_thinParents 97 = .ok (.goto (-33), 3) := by decide +kernel
theorem dX8_thinParents_100 : decode cX8_thinParents 100 = .ok (.iconst 0, 1) := by decide +kernel
theorem dX8_thinParents_101 : decode cX8_thinParents 101 = .ok (.istore_n 3, 1) := by decide +kernel
theorem dX8_thinParents_102 : decode cX8_thinParents 102 = .ok (.iload_n 1, 1) := by decide +kernel
theorem dX8_thinParents_103 : decode cX8_thinParents 103 = .ok (.iconst 3, 1) := by decide +kernel
theorem dX8_thinParents_104 : decode cX8_thinParents 104 = .ok (.if_icmp .ne 86, 3) := by decide +kernel
theorem dX8_thinParents_107 : decode cX8_thinParents 107 = .ok (.aload_n 0, 1) := by decide +kernel
theorem dX8_thinParents_108 : decode cX8_thinParents 108 = .ok (.getfield 21, 3) := by decide +kernel
theorem dX8_thinParents_111 : decode cX8_thinParents 111 = .ok (.getfield 158, 3) := by decide +kernel
theorem dX8_thinParents_114 : decode cX8_thinParents 114 = .ok (.iconst 2, 1) := by decide +kernel
theorem dX8_thinParents_115 : decode cX8_thinParents 115 = .ok (.if_icmp .lt 75, 3) := by decide +kernel
theorem dX8_thinParents_118 : decode cX8_thinParents 118 = .ok (.iload_n 3, 1) := by decide +kernel
theorem dX8_thinParents_119 : decode cX8_thinParents 119 = .ok (.aload_n 0, 1) := by decide +kernel
theorem dX8_thinParents_120 : decode cX8_thinParents 120 = .ok (.getfield 21, 3) := by decide +kernel
theorem dX8_thinParents_123 : decode cX8_thinParents 123 = .ok (.getfield 158, 3) := by decide +kernel
theorem dX8_thinParents_126 : decode cX8_thinParents 126 = .ok (.if_icmp .ge 64, 3) := by decide +kernel
theorem dX8_thinParents_129 : decode cX8_thinParents 129 = .ok (.aload_n 0, 1) := by decide +kernel
theorem dX8_thinParents_130 : decode cX8_thinParents 130 = .ok (.getfield 12, 3) := by decide +kernel
theorem dX8_thinParents_133 : decode cX8_thinParents 133 = .ok (.aload_n 0, 1) := by decide +kernel
theorem dX8_thinParents_134 : decode cX8_thinParents 134 = .ok (.getfield 21, 3) := by decide +kernel
theorem dX8_thinParents_137 : decode cX8_thinParents 137 = .ok (.getfield 161, 3) := by decide +kernel
theorem dX8_thinParents_140 : decode cX8_thinParents 140 = .ok (.iload_n 3, 1) := by decide +kernel
theorem dX8_thinParents_141 : decode cX8_thinParents 141 = .ok (.iaload, 1) := by decide +kernel
theorem dX8_thinParents_142 : decode cX8_thinParents 142 = .ok (.invokevirtual 127, 3) := by decide +kernel
theorem dX8_thinParents_145 : decode cX8_thinParents 145 = .ok (.aload_n 0, 1) := by decide +kernel
theorem dX8_thinParents_146 : decode cX8_thinParents 146 = .ok (.getfield 21, 3) := by decide +kernel
theorem dX8_thinParents_149 : decode cX8_thinParents 149 = .ok (.getfield 51, 3) := by decide +kernel
theorem dX8_thinParents_152 : decode cX8_thinParents 152 = .ok (.invokevirtual 225, 3) := by decide +kernel
theorem dX8_thinParents_155 : decode cX8_thinParents 155 = .ok (.ifCond .eq 29, 3) := by decide +kernel
theorem dX8_thinParents_158 : decode cX8_thinParents 158 = .ok (.aload_n 0, 1) := by decide +kernel
theorem dX8_thinParents_159 : decode cX8_thinParents 159 = .ok (.getfield 21, 3) := by decide +kernel
theorem dX8_thinParents_162 : decode cX8_thinParents 162 = .ok (.getfield 161, 3) := by decide +kernel
theorem dX8_thinParents_165 : decode cX8_thinParents 165 = .ok (.iconst 0, 1) := by decide +kernel
theorem dX8_thinParents_166 : decode cX8_thinParents 166 = .ok (.aload_n 0, 1) := by decide +kernel
theorem dX8_thinParents_167 : decode cX8_thinParents 167 = .ok (.getfield 21, 3) := by decide +kernel
theorem dX8_thinParents_170 : decode cX8_thinParents 170 = .ok (.getfield 161, 3) := by decide +kernel
theorem dX8_thinParents_173 : decode cX8_thinParents 173 = .ok (.iload_n 3, 1) := by decide +kernel
theorem dX8_thinParents_174 : decode cX8_thinParents 174 = .ok (.iaload, 1) := by decide +kernel
theorem dX8_thinParents_175 : decode cX8_thinParents 175 = .ok (.iastore, 1) := by decide +kernel
theorem dX8_thinParents_176 : decode cX8_thinParents 176 = .ok (.aload_n 0, 1) := by decide +kernel
theorem dX8_thinParents_177 : decode cX8_thinParents 177 = .ok (.getfield 21, 3) := by decide +kernel
theorem dX8_thinParents_180 : decode cX8_thinParents 180 = .ok (.iconst 1, 1) := by decide +kernel
theorem dX8_thinParents_181 : decode cX8_thinParents 181 = .ok (.putfield 158, 3) := by decide +kernel
theorem dX8_thinParents_184 : decode cX8_thinParents 184 = .ok (.iinc 3 1, 3) := by decide +kernel
theorem dX8_thinParents_187 : decode cX8_thinParents 187 = .ok (.goto (-85), 3) := by decide +kernel
theorem dX8_thinParents_190 : decode cX8_thinParents 190 = .ok (.return_, 1) := by decide +kernel
def P_X8_thinParents_10 (sh : gS) (Q : Option gV → gS → gM → Prop) (x1 x2 x3 : Int) (M : gM) : Prop := gA (gr 3 68) yX8_thinParents cX8_thinParents 4 none Q (0, 0) 10 [(4, 3), (0, x1), (0, x2), (0, x3)] [] sh M
def P_X8_thinParents_64 (sh : gS) (Q : Option gV → gS → gM → Prop) (x1 x2 x3 : Int) (M : gM) : Prop := gA (gr 3 68) yX8_thinParents cX8_thinParents 4 none Q (0, 0) 64 [(4, 3), (0, x1), (0, x2), (0, x3)] [] sh M
def P_X8_thinParents_102 (sh : gS) (Q : Option gV → gS → gM → Prop) (x1 x2 x3 : Int) (M : gM) : Prop := gA (gr 3 68) yX8_thinParents cX8_thinParents 4 none Q (0, 0) 102 [(4, 3), (0, x1), (0, x2), (0, x3)] [] sh M
theorem w_X8_thinParents_10 {sh : gS} {Q : Option gV → gS → gM → Prop} {x1 x2 x3 : Int} {M : gM} (hOK : gOK sh M) (h : (if x3 < x2 then
    (if (0 : Int) < x1 then
      (if x1 = 1 then
        (∃ v36 : Int, gC (gr 2 44) yX8_isNeedless cX8_isNeedless 5 (some (.boolean)) [(4, 3), (0, x3), (0, 1)] sh M (gPp sh M (0, v36)) ∧
          (if v36 = 0 then
            ((0 ≤ x3 ∧ x3 < 3) ∧
              (P_X8_thinParents_10 sh Q x1 x2 (gw32 (x3 + 1)) (gU M 398 x3 0)))
          else
            ((0 ≤ x3 ∧ x3 < 3) ∧
              (P_X8_thinParents_10 sh Q x1 x2 (gw32 (x3 + 1)) (gU M 398 x3 1)))))
      else
        (∃ v36 : Int, gC (gr 2 44) yX8_isNeedless cX8_isNeedless 5 (some (.boolean)) [(4, 3), (0, x3), (0, 0)] sh M (gPp sh M (0, v36)) ∧
          (if v36 = 0 then
            ((0 ≤ x3 ∧ x3 < 3) ∧
              (P_X8_thinParents_10 sh Q x1 x2 (gw32 (x3 + 1)) (gU M 398 x3 0)))
          else
            ((0 ≤ x3 ∧ x3 < 3) ∧
              (P_X8_thinParents_10 sh Q x1 x2 (gw32 (x3 + 1)) (gU M 398 x3 1))))))
    else
      ((0 ≤ x3 ∧ x3 < 3) ∧
        (P_X8_thinParents_10 sh Q x1 x2 (gw32 (x3 + 1)) (gU M 398 x3 0))))
  else
    (P_X8_thinParents_64 sh Q x1 x2 0 (gU M 380 1 0)))) : P_X8_thinParents_10 sh Q x1 x2 x3 M := by
  unfold P_X8_thinParents_10
  refine g_iload_n (q0 := 11) (j := 3) rfl dX8_thinParents_10 rfl ?_
  refine g_iload_n (q0 := 12) (j := 2) rfl dX8_thinParents_11 rfl ?_
  refine g_icmp_ge (q0 := 15) (tgt := 54) rfl dX8_thinParents_12 (by decide) (fun h12 => ?_) (fun h12 => ?_)
  · replace h := wI_neg (Int.not_lt.mpr h12) h
    refine g_aload_n (q0 := 55) (j := 0) rfl dX8_thinParents_54 rfl ?_
    refine g_getp (q0 := 58) (b := 380) rfl ff_X8_21 dX8_thinParents_55 rfl hOK (by decide) (sh_3 hOK) rfl (by decide) ?_
    refine g_iconst (q0 := 59) rfl dX8_thinParents_58 (k := ?_)
    refine g_put (q0 := 62) (t := 0) (fi := 1) rfl rfl ff_X8_158 dX8_thinParents_59 rfl (sh_380 hOK) rfl (fun _ => ⟨rfl, rfl⟩) ?_
    have hOK1 : gOK sh (gU M 380 1 0) := gOK_o hOK (sh_380 hOK) (f := 1) rfl rfl
    refine g_iconst (q0 := 63) rfl dX8_thinParents_62 (k := ?_)
    refine g_istore_n (q0 := 64) (j := 3) (lv2 := [_, _, _, _]) rfl dX8_thinParents_63 (by decide) rfl rfl ?_
    exact h
  · replace h := wI_pos h12 h
    refine g_aload_n (q0 := 16) (j := 0) rfl dX8_thinParents_15 rfl ?_
    refine g_getp (q0 := 19) (b := 398) rfl ff_X8_47 dX8_thinParents_16 rfl hOK (by decide) (sh_3 hOK) rfl (by decide) ?_
    refine g_iload_n (q0 := 20) (j := 3) rfl dX8_thinParents_19 rfl ?_
    refine g_iload_n (q0 := 21) (j := 1) rfl dX8_thinParents_20 rfl ?_
    refine g_if_le (q0 := 24) (tgt := 46) rfl dX8_thinParents_21 (by decide) (fun h21 => ?_) (fun h21 => ?_)
    · replace h := wI_neg (Int.not_lt.mpr h21) h
      refine g_iconst (q0 := 47) rfl dX8_thinParents_46 (k := ?_)
      obtain ⟨g2, h⟩ := h
      refine g_zast (q0 := 48) rfl dX8_thinParents_47 (sh_398 hOK) g2.1 g2.2 (Or.inl rfl) ?_
      have hOK3 : gOK sh (gU M 398 x3 0) := gOK_z hOK (sh_398 hOK)
      refine g_iincw (q0 := 51) (lv2 := [_, _, _, _]) rfl dX8_thinParents_48 rfl (by decide) rfl rfl ?_
      refine g_goto (tgt := 10) dX8_thinParents_51 (by decide) ?_
      exact h
    · replace h := wI_pos h21 h
      refine g_aload_n (q0 := 25) (j := 0) rfl dX8_thinParents_24 rfl ?_
      refine g_iload_n (q0 := 26) (j := 3) rfl dX8_thinParents_25 rfl ?_
      refine g_iload_n (q0 := 27) (j := 1) rfl dX8_thinParents_26 rfl ?_
      refine g_iconst (q0 := 28) rfl dX8_thinParents_27 (k := ?_)
      refine g_icmp_ne (q0 := 31) (tgt := 35) rfl dX8_thinParents_28 (by decide) (fun h28 => ?_) (fun h28 => ?_)
      · replace h := wI_neg h28 h
        refine g_iconst (q0 := 36) rfl dX8_thinParents_35 (k := ?_)
        obtain ⟨v36, e36, h⟩ := h
        refine g_callVp (as := [_, _]) (rest := [_, _]) mt_X8_isNeedless mi_X8_isNeedless se_X8_isNeedless ml_X8_221 dX8_thinParents_36 (q0 := 39) rfl rfl (sh_3 hOK) rfl rfl e36 rfl ⟨by decide, by decide⟩ (Nat.le_of_ble_eq_true rfl) ⟨Nat.zero_le _, Nat.zero_le _⟩ (fun _ => ?_)
        refine g_if_eq (q0 := 42) (tgt := 46) rfl dX8_thinParents_39 (by decide) (fun h39 => ?_) (fun h39 => ?_)
        · replace h := wI_pos h39 h
          refine g_iconst (q0 := 47) rfl dX8_thinParents_46 (k := ?_)
          obtain ⟨g4, h⟩ := h
          refine g_zast (q0 := 48) rfl dX8_thinParents_47 (sh_398 hOK) g4.1 g4.2 (Or.inl rfl) ?_
          have hOK5 : gOK sh (gU M 398 x3 0) := gOK_z hOK (sh_398 hOK)
          refine g_iincw (q0 := 51) (lv2 := [_, _, _, _]) rfl dX8_thinParents_48 rfl (by decide) rfl rfl ?_
          refine g_goto (tgt := 10) dX8_thinParents_51 (by decide) ?_
          exact h
        · replace h := wI_neg h39 h
          refine g_iconst (q0 := 43) rfl dX8_thinParents_42 (k := ?_)
          refine g_goto (tgt := 47) dX8_thinParents_43 (by decide) ?_
          obtain ⟨g6, h⟩ := h
          refine g_zast (q0 := 48) rfl dX8_thinParents_47 (sh_398 hOK) g6.1 g6.2 (Or.inr rfl) ?_
          have hOK7 : gOK sh (gU M 398 x3 1) := gOK_z hOK (sh_398 hOK)
          refine g_iincw (q0 := 51) (lv2 := [_, _, _, _]) rfl dX8_thinParents_48 rfl (by decide) rfl rfl ?_
          refine g_goto (tgt := 10) dX8_thinParents_51 (by decide) ?_
          exact h
      · replace h := wI_pos h28 h
        refine g_iconst (q0 := 32) rfl dX8_thinParents_31 (k := ?_)
        refine g_goto (tgt := 36) dX8_thinParents_32 (by decide) ?_
        obtain ⟨v36, e36, h⟩ := h
        refine g_callVp (as := [_, _]) (rest := [_, _]) mt_X8_isNeedless mi_X8_isNeedless se_X8_isNeedless ml_X8_221 dX8_thinParents_36 (q0 := 39) rfl rfl (sh_3 hOK) rfl rfl e36 rfl ⟨by decide, by decide⟩ (Nat.le_of_ble_eq_true rfl) ⟨Nat.zero_le _, Nat.zero_le _⟩ (fun _ => ?_)
        refine g_if_eq (q0 := 42) (tgt := 46) rfl dX8_thinParents_39 (by decide) (fun h39 => ?_) (fun h39 => ?_)
        · replace h := wI_pos h39 h
          refine g_iconst (q0 := 47) rfl dX8_thinParents_46 (k := ?_)
          obtain ⟨g8, h⟩ := h
          refine g_zast (q0 := 48) rfl dX8_thinParents_47 (sh_398 hOK) g8.1 g8.2 (Or.inl rfl) ?_
          have hOK9 : gOK sh (gU M 398 x3 0) := gOK_z hOK (sh_398 hOK)
          refine g_iincw (q0 := 51) (lv2 := [_, _, _, _]) rfl dX8_thinParents_48 rfl (by decide) rfl rfl ?_
          refine g_goto (tgt := 10) dX8_thinParents_51 (by decide) ?_
          exact h
        · replace h := wI_neg h39 h
          refine g_iconst (q0 := 43) rfl dX8_thinParents_42 (k := ?_)
          refine g_goto (tgt := 47) dX8_thinParents_43 (by decide) ?_
          obtain ⟨g10, h⟩ := h
          refine g_zast (q0 := 48) rfl dX8_thinParents_47 (sh_398 hOK) g10.1 g10.2 (Or.inr rfl) ?_
          have hOK11 : gOK sh (gU M 398 x3 1) := gOK_z hOK (sh_398 hOK)
          refine g_iincw (q0 := 51) (lv2 := [_, _, _, _]) rfl dX8_thinParents_48 rfl (by decide) rfl rfl ?_
          refine g_goto (tgt := 10) dX8_thinParents_51 (by decide) ?_
          exact h
theorem w_X8_thinParents_64 {sh : gS} {Q : Option gV → gS → gM → Prop} {x1 x2 x3 : Int} {M : gM} (hOK : gOK sh M) (h : (if x3 < x2 then
    ((0 ≤ x3 ∧ x3 < 3) ∧
      (if (M 398 x3) = 0 then
        (∃ P91 : Option gV → gM → Prop, gC (gr 0 0) yX2_addParent cX2_addParent 2 none [(4, 380), (0, (M 381 x3))] sh M (gPm sh P91) ∧ ∀ (r91 : Option gV) (M91 : gM), P91 r91 M91 → r91 = none ∧ gOK sh M91 ∧
          (P_X8_thinParents_64 sh Q x1 x2 (gw32 (x3 + 1)) M91))
      else
        (P_X8_thinParents_64 sh Q x1 x2 (gw32 (x3 + 1)) M)))
  else
    (P_X8_thinParents_102 sh Q x1 x2 0 M))) : P_X8_thinParents_64 sh Q x1 x2 x3 M := by
  unfold P_X8_thinParents_64
  refine g_iload_n (q0 := 65) (j := 3) rfl dX8_thinParents_64 rfl ?_
  refine g_iload_n (q0 := 66) (j := 2) rfl dX8_thinParents_65 rfl ?_
  refine g_icmp_ge (q0 := 69) (tgt := 100) rfl dX8_thinParents_66 (by decide) (fun h66 => ?_) (fun h66 => ?_)
  · replace h := wI_neg (Int.not_lt.mpr h66) h
    refine g_iconst (q0 := 101) rfl dX8_thinParents_100 (k := ?_)
    refine g_istore_n (q0 := 102) (j := 3) (lv2 := [_, _, _, _]) rfl dX8_thinParents_101 (by decide) rfl rfl ?_
    exact h
  · replace h := wI_pos h66 h
    refine g_aload_n (q0 := 70) (j := 0) rfl dX8_thinParents_69 rfl ?_
    refine g_getp (q0 := 73) (b := 398) rfl ff_X8_47 dX8_thinParents_70 rfl hOK (by decide) (sh_3 hOK) rfl (by decide) ?_
    refine g_iload_n (q0 := 74) (j := 3) rfl dX8_thinParents_73 rfl ?_
    obtain ⟨g12, h⟩ := h
    refine g_zald (q0 := 75) rfl dX8_thinParents_74 (sh_398 hOK) g12.1 g12.2 ?_
    refine g_if_ne (q0 := 78) (tgt := 94) rfl dX8_thinParents_75 (by decide) (fun h75 => ?_) (fun h75 => ?_)
    · replace h := wI_neg h75 h
      refine g_iincw (q0 := 97) (lv2 := [_, _, _, _]) rfl dX8_thinParents_94 rfl (by decide) rfl rfl ?_
      refine g_goto (tgt := 64) dX8_thinParents_97 (by decide) ?_
      exact h
    · replace h := wI_pos h75 h
      refine g_aload_n (q0 := 79) (j := 0) rfl dX8_thinParents_78 rfl ?_
      refine g_getp (q0 := 82) (b := 380) rfl ff_X8_21 dX8_thinParents_79 rfl hOK (by decide) (sh_3 hOK) rfl (by decide) ?_
      refine g_aload_n (q0 := 83) (j := 0) rfl dX8_thinParents_82 rfl ?_
      refine g_getp (q0 := 86) (b := 380) rfl ff_X8_21 dX8_thinParents_83 rfl hOK (by decide) (sh_3 hOK) rfl (by decide) ?_
      refine g_getp (q0 := 89) (b := 381) rfl ff_X8_161 dX8_thinParents_86 rfl hOK (by decide) (sh_380 hOK) rfl (by decide) ?_
      refine g_iload_n (q0 := 90) (j := 3) rfl dX8_thinParents_89 rfl ?_
      refine g_iald (q0 := 91) rfl dX8_thinParents_90 (sh_381 hOK) g12.1 g12.2 ?_
      obtain ⟨P91, e91, h⟩ := h
      refine g_callVm (as := [_]) (rest := []) mt_X2_addParent mi_X2_addParent se_X2_addParent ml_X8_218 dX8_thinParents_91 (q0 := 94) rfl rfl (sh_380 hOK) rfl rfl e91 rfl ⟨by decide, by decide⟩ (Nat.le_of_ble_eq_true rfl) ⟨Nat.zero_le _, Nat.zero_le _⟩ (fun r91 M91 hP91 hw91 hMw91 => ?_)
      obtain ⟨hr91, hOK13, h⟩ := h r91 M91 hP91
      subst hr91
      refine g_iincw (q0 := 97) (lv2 := [_, _, _, _]) rfl dX8_thinParents_94 rfl (by decide) rfl rfl ?_
      refine g_goto (tgt := 64) dX8_thinParents_97 (by decide) ?_
      exact h
theorem w_X8_thinParents_102 {sh : gS} {Q : Option gV → gS → gM → Prop} {x1 x2 x3 : Int} {M : gM} (hOK : gOK sh M) (h : (if x1 = 3 then
    (if (M 380 1) < 2 then
      (Q none sh M)
    else
      (if x3 < (M 380 1) then
        ((0 ≤ x3 ∧ x3 < 3) ∧
          (∃ v142 : Int, gC (gr 0 0) yX1_tree cX1_tree 2 (some (.object "CarriedHistory$Tree")) [(4, 4), (0, (M 381 x3))] sh M (gPp sh M (4, v142)) ∧
            ((gsh sh v142 = some (0, 11) ∧ v142 < 758) ∧
              (∃ v152 : Int, gC (gr 0 0) yX10_isLike cX10_isLike 3 (some (.boolean)) [(4, v142), (4, 382)] sh M (gPp sh M (0, v152)) ∧
                (if v152 = 0 then
                  (P_X8_thinParents_102 sh Q x1 x2 (gw32 (x3 + 1)) M)
                else
                  (P_X8_thinParents_102 sh Q x1 x2 (gw32 (x3 + 1)) (gU (gU M 381 0 (M 381 x3)) 380 1 1)))))))
      else
        (Q none sh M)))
  else
    (Q none sh M))) : P_X8_thinParents_102 sh Q x1 x2 x3 M := by
  unfold P_X8_thinParents_102
  refine g_iload_n (q0 := 103) (j := 1) rfl dX8_thinParents_102 rfl ?_
  refine g_iconst (q0 := 104) rfl dX8_thinParents_103 (k := ?_)
  refine g_icmp_ne (q0 := 107) (tgt := 190) rfl dX8_thinParents_104 (by decide) (fun h104 => ?_) (fun h104 => ?_)
  · replace h := wI_neg h104 h
    exact g_return dX8_thinParents_190 rfl ⟨Nat.zero_le _, Nat.zero_le _⟩ h
  · replace h := wI_pos h104 h
    refine g_aload_n (q0 := 108) (j := 0) rfl dX8_thinParents_107 rfl ?_
    refine g_getp (q0 := 111) (b := 380) rfl ff_X8_21 dX8_thinParents_108 rfl hOK (by decide) (sh_3 hOK) rfl (by decide) ?_
    refine g_getf (q0 := 114) (t := 0) (fi := 1) rfl rfl ff_X8_158 dX8_thinParents_111 rfl (sh_380 hOK) ?_
    refine g_iconst (q0 := 115) rfl dX8_thinParents_114 (k := ?_)
    refine g_icmp_lt (q0 := 118) (tgt := 190) rfl dX8_thinParents_115 (by decide) (fun h115 => ?_) (fun h115 => ?_)
    · replace h := wI_pos h115 h
      exact g_return dX8_thinParents_190 rfl ⟨Nat.zero_le _, Nat.zero_le _⟩ h
    · replace h := wI_neg (Int.not_lt.mpr h115) h
      refine g_iload_n (q0 := 119) (j := 3) rfl dX8_thinParents_118 rfl ?_
      refine g_aload_n (q0 := 120) (j := 0) rfl dX8_thinParents_119 rfl ?_
      refine g_getp (q0 := 123) (b := 380) rfl ff_X8_21 dX8_thinParents_120 rfl hOK (by decide) (sh_3 hOK) rfl (by decide) ?_
      refine g_getf (q0 := 126) (t := 0) (fi := 1) rfl rfl ff_X8_158 dX8_thinParents_123 rfl (sh_380 hOK) ?_
      refine g_icmp_ge (q0 := 129) (tgt := 190) rfl dX8_thinParents_126 (by decide) (fun h126 => ?_) (fun h126 => ?_)
      · replace h := wI_neg (Int.not_lt.mpr h126) h
        exact g_return dX8_thinParents_190 rfl ⟨Nat.zero_le _, Nat.zero_le _⟩ h
      · replace h := wI_pos h126 h
        refine g_aload_n (q0 := 130) (j := 0) rfl dX8_thinParents_129 rfl ?_
        refine g_getp (q0 := 133) (b := 4) rfl ff_X8_12 dX8_thinParents_130 rfl hOK (by decide) (sh_3 hOK) rfl (by decide) ?_
        refine g_aload_n (q0 := 134) (j := 0) rfl dX8_thinParents_133 rfl ?_
        refine g_getp (q0 := 137) (b := 380) rfl ff_X8_21 dX8_thinParents_134 rfl hOK (by decide) (sh_3 hOK) rfl (by decide) ?_
        refine g_getp (q0 := 140) (b := 381) rfl ff_X8_161 dX8_thinParents_137 rfl hOK (by decide) (sh_380 hOK) rfl (by decide) ?_
        refine g_iload_n (q0 := 141) (j := 3) rfl dX8_thinParents_140 rfl ?_
        obtain ⟨g14, h⟩ := h
        refine g_iald (q0 := 142) rfl dX8_thinParents_141 (sh_381 hOK) g14.1 g14.2 ?_
        obtain ⟨v142, e142, h⟩ := h
        refine g_callVp (as := [_]) (rest := []) mt_X1_tree mi_X1_tree se_X1_tree ml_X8_127 dX8_thinParents_142 (q0 := 145) rfl rfl (sh_4 hOK) rfl rfl e142 rfl ⟨by decide, by decide⟩ (Nat.le_of_ble_eq_true rfl) ⟨Nat.zero_le _, Nat.zero_le _⟩ (fun _ => ?_)
        refine g_aload_n (q0 := 146) (j := 0) rfl dX8_thinParents_145 rfl ?_
        refine g_getp (q0 := 149) (b := 380) rfl ff_X8_21 dX8_thinParents_146 rfl hOK (by decide) (sh_3 hOK) rfl (by decide) ?_
        refine g_getp (q0 := 152) (b := 382) rfl ff_X8_51 dX8_thinParents_149 rfl hOK (by decide) (sh_380 hOK) rfl (by decide) ?_
        obtain ⟨g15, h⟩ := h
        obtain ⟨v152, e152, h⟩ := h
        refine g_callVp (as := [_]) (rest := []) mt_X10_isLike mi_X10_isLike se_X10_isLike ml_X8_225 dX8_thinParents_152 (q0 := 155) rfl rfl g15.1 rfl rfl e152 rfl ⟨by decide, by decide⟩ (Nat.le_of_ble_eq_true rfl) ⟨Nat.zero_le _, Nat.zero_le _⟩ (fun _ => ?_)
        refine g_if_eq (q0 := 158) (tgt := 184) rfl dX8_thinParents_155 (by decide) (fun h155 => ?_) (fun h155 => ?_)
        · replace h := wI_pos h155 h
          refine g_iincw (q0 := 187) (lv2 := [_, _, _, _]) rfl dX8_thinParents_184 rfl (by decide) rfl rfl ?_
          refine g_goto (tgt := 102) dX8_thinParents_187 (by decide) ?_
          exact h
        · replace h := wI_neg h155 h
          refine g_aload_n (q0 := 159) (j := 0) rfl dX8_thinParents_158 rfl ?_
          refine g_getp (q0 := 162) (b := 380) rfl ff_X8_21 dX8_thinParents_159 rfl hOK (by decide) (sh_3 hOK) rfl (by decide) ?_
          refine g_getp (q0 := 165) (b := 381) rfl ff_X8_161 dX8_thinParents_162 rfl hOK (by decide) (sh_380 hOK) rfl (by decide) ?_
          refine g_iconst (q0 := 166) rfl dX8_thinParents_165 (k := ?_)
          refine g_aload_n (q0 := 167) (j := 0) rfl dX8_thinParents_166 rfl ?_
          refine g_getp (q0 := 170) (b := 380) rfl ff_X8_21 dX8_thinParents_167 rfl hOK (by decide) (sh_3 hOK) rfl (by decide) ?_
          refine g_getp (q0 := 173) (b := 381) rfl ff_X8_161 dX8_thinParents_170 rfl hOK (by decide) (sh_380 hOK) rfl (by decide) ?_
          refine g_iload_n (q0 := 174) (j := 3) rfl dX8_thinParents_173 rfl ?_
          refine g_iald (q0 := 175) rfl dX8_thinParents_174 (sh_381 hOK) g14.1 g14.2 ?_
          refine g_iast (q0 := 176) rfl dX8_thinParents_175 (sh_381 hOK) (by decide) (by decide) ?_
          have hOK16 : gOK sh (gU M 381 0 (M 381 x3)) := gOK_i hOK (sh_381 hOK)
          refine g_aload_n (q0 := 177) (j := 0) rfl dX8_thinParents_176 rfl ?_
          refine g_getp (q0 := 180) (b := 380) rfl ff_X8_21 dX8_thinParents_177 rfl hOK16 (by decide) (sh_3 hOK16) rfl (by decide) ?_
          refine g_iconst (q0 := 181) rfl dX8_thinParents_180 (k := ?_)
          refine g_put (q0 := 184) (t := 0) (fi := 1) rfl rfl ff_X8_158 dX8_thinParents_181 rfl (sh_380 hOK16) rfl (fun _ => ⟨rfl, rfl⟩) ?_
          have hOK17 : gOK sh (gU (gU M 381 0 (M 381 x3)) 380 1 1) := gOK_o hOK16 (sh_380 hOK16) (f := 1) rfl rfl
          refine g_iincw (q0 := 187) (lv2 := [_, _, _, _]) rfl dX8_thinParents_184 rfl (by decide) rfl rfl ?_
          refine g_goto (tgt := 102) dX8_thinParents_187 (by decide) ?_
          exact h
theorem w_X8_thinParents {sh : gS} {Q : Option gV → gS → gM → Prop} {a1 : Int} {M : gM} (hOK : gOK sh M) (h : (P_X8_thinParents_10 sh Q a1 (M 380 1) 0 M)) : gC (gr 3 68) yX8_thinParents cX8_thinParents 4 none [(4, 3), (0, a1)] sh M Q := by
  refine gC_ofA (lv := [_, _, _, _]) (by decide +kernel) (Nat.le_of_ble_eq_true rfl) rfl (fun hMw hav => ?_)
  refine g_aload_n (q0 := 1) (j := 0) rfl dX8_thinParents_0 rfl ?_
  refine g_getp (q0 := 4) (b := 380) rfl ff_X8_21 dX8_thinParents_1 rfl hOK (by decide) (sh_3 hOK) rfl (by decide) ?_
  refine g_getf (q0 := 7) (t := 0) (fi := 1) rfl rfl ff_X8_158 dX8_thinParents_4 rfl (sh_380 hOK) ?_
  refine g_istore_n (q0 := 8) (j := 2) (lv2 := [_, _, _, _]) rfl dX8_thinParents_7 (by decide) rfl rfl ?_
  refine g_iconst (q0 := 9) rfl dX8_thinParents_8 (k := ?_)
  refine g_istore_n (q0 := 10) (j := 3) (lv2 := [_, _, _, _]) rfl dX8_thinParents_9 (by decide) rfl rfl ?_
  exact h
-- ==== X8_isEmptyByItself
theorem dX8_isEmptyByItself_0 : decode cX8_isEmptyByItself 0 = .ok (.aload_n 1, 1) := by decide +kernel
theorem dX8_isEmptyByItself_1 : decode cX8_isEmptyByItself 1 = .ok (.aload_n 0, 1) := by decide +kernel
theorem dX8_isEmptyByItself_2 : decode cX8_isEmptyByItself 2 = .ok (.getfield 12, 3) := by decide +kernel
theorem dX8_isEmptyByItself_5 : decode cX8_isEmptyByItself 5 = .ok (.iload_n 2, 1) := by decide +kernel
theorem dX8_isEmptyByItself_6 : decode cX8_isEmptyByItself 6 = .ok (.invokevirtual 66, 3) := by decide +kernel
theorem dX8_isEmptyByItself_9 : decode cX8_isEmptyByItself 9 = .ok (.istore_n 3, 1) := by decide +kernel
theorem dX8_isEmptyByItself_10 : decode cX8_isEmptyByItself 10 = .ok (.iload_n 3, 1) := by decide +kernel
theorem dX8_isEmptyByItself_11 : decode cX8_isEmptyByItself 11 = .ok (.ifCond .ne 23, 3) := by decide +kernel
theorem dX8_isEmptyByItself_14 : decode cX8_isEmptyByItself 14 = .ok (.aload_n 0, 1) := by decide +kernel
theorem dX8_isEmptyByItself_15 : decode cX8_isEmptyByItself 15 = .ok (.getfield 12, 3) := by decide +kernel
theorem dX8_isEmptyByItself_18 : decode cX8_isEmptyByItself 18 = .ok (.iload_n 2, 1) := by decide +kernel
theorem dX8_isEmptyByItself_19 : decode cX8_isEmptyByItself 19 = .ok (.invokevirtual 127, 3) := by decide +kernel
theorem dX8_isEmptyByItself_22 : decode cX8_isEmptyByItself 22 = .ok (.getfield 171, 3) := by decide +kernel
theorem dX8_isEmptyByItself_25 : decode cX8_isEmptyByItself 25 = .ok (.ifCond .ne 7, 3) := by decide +kernel
theorem dX8_isEmptyByItself_28 : decode cX8_isEmptyByItself 28 = .ok (.iconst 1, 1) := by decide +kernel
theorem dX8_isEmptyByItself_29 : decode cX8_isEmptyByItself 29 = .ok (.goto 4, 3) := by decide +kernel
theorem dX8_isEmptyByItself_32 : decode cX8_isEmptyByItself 32 = .ok (.iconst 0, 1) := by decide +kernel
theorem dX8_isEmptyByItself_33 : decode cX8_isEmptyByItself 33 = .ok (.ireturn, 1) := by decide +kernel
theorem dX8_isEmptyByItself_34 : decode cX8_isEmptyByItself 34 = .ok (.iload_n 3, 1) := by decide +kernel
theorem dX8_isEmptyByItself_35 : decode cX8_isEmptyByItself 35 = .ok (.iconst 1, 1) := by decide +kernel
theorem dX8_isEmptyByItself_36 : decode cX8_isEmptyByItself 36 = .ok (.if_icmp .ne 37, 3) := by decide +kernel
theorem dX8_isEmptyByItself_39 : decode cX8_isEmptyByItself 39 = .ok (.aload_n 0, 1) := by decide +kernel
theorem dX8_isEmptyByItself_40 : decode cX8_isEmptyByItself 40 = .ok (.getfield 12, 3) := by decide +kernel
theorem dX8_isEmptyByItself_43 : decode cX8_isEmptyByItself 43 = .ok (.getfield 232, 3) := by decide +kernel
theorem dX8_isEmptyByItself_46 : decode cX8_isEmptyByItself 46 = .ok (.iload_n 2, 1) := by decide +kernel
theorem dX8_isEmptyByItself_47 : decode cX8_isEmptyByItself 47 = .ok (.iaload, 1) := by decide +kernel
theorem dX8_isEmptyByItself_48 : decode cX8_isEmptyByItself 48 = .ok (.aload_n 0, 1) := by decide +kernel
theorem dX8_isEmptyByItself_49 : decode cX8_isEmptyByItself 49 = .ok (.getfield 12, 3) := by decide +kernel
theorem dX8_isEmptyByItself_52 : decode cX8_isEmptyByItself 52 = .ok (.getfield 232, 3) := by decide +kernel
theorem dX8_isEmptyByItself_55 : decode cX8_isEmptyByItself 55 = .ok (.aload_n 1, 1) := by decide +kernel
theorem dX8_isEmptyByItself_56 : decode cX8_isEmptyByItself 56 = .ok (.aload_n 0, 1) := by decide +kernel
theorem dX8_isEmptyByItself_57 : decode cX8_isEmptyByItself 57 = .ok (.getfield 12, 3) := by decide +kernel
theorem dX8_isEmptyByItself_60 : decode cX8_isEmptyByItself 60 = .ok (.iload_n 2, 1) := by decide +kernel
theorem dX8_isEmptyByItself_61 : decode cX8_isEmptyByItself 61 = .ok (.iconst 0, 1) := by decide +kernel
theorem dX8_isEmptyByItself_62 : decode cX8_isEmptyByItself 62 = .ok (.invokevirtual 72, 3) := by decide +kernel
theorem dX8_isEmptyByItself_65 : decode cX8_isEmptyByItself 65 = .ok (.iaload, 1) := by decide +kernel
theorem dX8_isEmptyByItself_66 : decode cX8_isEmptyByItself 66 = .ok (.if_icmp .ne 7, 3) := by decide +kernel
theorem dX8_isEmptyByItself_69 : decode cX8_isEmptyByItself 69 = .ok (.iconst 1, 1) := by decide +kernel
theorem dX8_isEmptyByItself_70 : decode cX8_isEmptyByItself 70 = .ok (.goto 4, 3) := by decide +kernel
theorem dX8_isEmptyByItself_73 : decode cX8_isEmptyByItself 73 = .ok (.iconst 0, 1) := by decide +kernel
theorem dX8_isEmptyByItself_74 : decode cX8_isEmptyByItself 74 = .ok (.ireturn, 1) := by decide +kernel
theorem w_X8_isEmptyByItself {sh : gS} {Q : Option gV → gS → gM → Prop} {a1 a2 : Int} {M : gM} (hOK : gOK sh M) (h : ((gsh sh a1 = some (0, 6) ∧ a1 < 758) ∧
    (∃ v6 : Int, gC (gr 1 22) yX5_foreCount cX5_foreCount 4 (some (.int)) [(4, a1), (4, 4), (0, a2)] sh M (gPp sh M (0, v6)) ∧
      (if v6 = 0 then
        (∃ v19 : Int, gC (gr 0 0) yX1_tree cX1_tree 2 (some (.object "CarriedHistory$Tree")) [(4, 4), (0, a2)] sh M (gPp sh M (4, v19)) ∧
          ((gsh sh v19 = some (0, 11) ∧ v19 < 758) ∧
            (if (M v19 2) = 0 then
              (Q (some (0, 1)) sh M)
            else
              (Q (some (0, 0)) sh M))))
      else
        (if v6 = 1 then
          ((0 ≤ a2 ∧ a2 < 120) ∧
            (∃ v62 : Int, gC (gr 1 22) yX5_foreAt cX5_foreAt 5 (some (.int)) [(4, a1), (4, 4), (0, a2), (0, 0)] sh M (gPp sh M (0, v62)) ∧
              ((0 ≤ v62 ∧ v62 < 120) ∧
                (if (M 7 a2) = (M 7 v62) then
                  (Q (some (0, 1)) sh M)
                else
                  (Q (some (0, 0)) sh M)))))
        else
          (Q (some (0, 0)) sh M)))))) : gC (gr 2 46) yX8_isEmptyByItself cX8_isEmptyByItself 4 (some (.boolean)) [(4, 3), (4, a1), (0, a2)] sh M Q := by
  refine gC_ofA (lv := [_, _, _, _]) (by decide +kernel) (Nat.le_of_ble_eq_true rfl) rfl (fun hMw hav => ?_)
  refine g_aload_n (q0 := 1) (j := 1) rfl dX8_isEmptyByItself_0 rfl ?_
  refine g_aload_n (q0 := 2) (j := 0) rfl dX8_isEmptyByItself_1 rfl ?_
  refine g_getp (q0 := 5) (b := 4) rfl ff_X8_12 dX8_isEmptyByItself_2 rfl hOK (by decide) (sh_3 hOK) rfl (by decide) ?_
  refine g_iload_n (q0 := 6) (j := 2) rfl dX8_isEmptyByItself_5 rfl ?_
  obtain ⟨g1, h⟩ := h
  obtain ⟨v6, e6, h⟩ := h
  refine g_callVp (as := [_, _]) (rest := []) mt_X5_foreCount mi_X5_foreCount se_X5_foreCount ml_X8_66 dX8_isEmptyByItself_6 (q0 := 9) rfl rfl g1.1 rfl rfl e6 rfl ⟨by decide, by decide⟩ (Nat.le_of_ble_eq_true rfl) ⟨Nat.zero_le _, Nat.zero_le _⟩ (fun _ => ?_)
  refine g_istore_n (q0 := 10) (j := 3) (lv2 := [_, _, _, _]) rfl dX8_isEmptyByItself_9 (by decide) rfl rfl ?_
  refine g_iload_n (q0 := 11) (j := 3) rfl dX8_isEmptyByItself_10 rfl ?_
  refine g_if_ne (q0 := 14) (tgt := 34) rfl dX8_isEmptyByItself_11 (by decide) (fun h11 => ?_) (fun h11 => ?_)
  · replace h := wI_neg h11 h
    refine g_iload_n (q0 := 35) (j := 3) rfl dX8_isEmptyByItself_34 rfl ?_
    refine g_iconst (q0 := 36) rfl dX8_isEmptyByItself_35 (k := ?_)
    refine g_icmp_ne (q0 := 39) (tgt := 73) rfl dX8_isEmptyByItself_36 (by decide) (fun h36 => ?_) (fun h36 => ?_)
    · replace h := wI_neg h36 h
      refine g_iconst (q0 := 74) rfl dX8_isEmptyByItself_73 (k := ?_)
      exact g_zreturn dX8_isEmptyByItself_74 rfl (gnz (Or.inl rfl)) ⟨Nat.zero_le _, Nat.zero_le _⟩ h
    · replace h := wI_pos h36 h
      refine g_aload_n (q0 := 40) (j := 0) rfl dX8_isEmptyByItself_39 rfl ?_
      refine g_getp (q0 := 43) (b := 4) rfl ff_X8_12 dX8_isEmptyByItself_40 rfl hOK (by decide) (sh_3 hOK) rfl (by decide) ?_
      refine g_getp (q0 := 46) (b := 7) rfl ff_X8_232 dX8_isEmptyByItself_43 rfl hOK (by decide) (sh_4 hOK) rfl (by decide) ?_
      refine g_iload_n (q0 := 47) (j := 2) rfl dX8_isEmptyByItself_46 rfl ?_
      obtain ⟨g2, h⟩ := h
      refine g_iald (q0 := 48) rfl dX8_isEmptyByItself_47 (sh_7 hOK) g2.1 g2.2 ?_
      refine g_aload_n (q0 := 49) (j := 0) rfl dX8_isEmptyByItself_48 rfl ?_
      refine g_getp (q0 := 52) (b := 4) rfl ff_X8_12 dX8_isEmptyByItself_49 rfl hOK (by decide) (sh_3 hOK) rfl (by decide) ?_
      refine g_getp (q0 := 55) (b := 7) rfl ff_X8_232 dX8_isEmptyByItself_52 rfl hOK (by decide) (sh_4 hOK) rfl (by decide) ?_
      refine g_aload_n (q0 := 56) (j := 1) rfl dX8_isEmptyByItself_55 rfl ?_
      refine g_aload_n (q0 := 57) (j := 0) rfl dX8_isEmptyByItself_56 rfl ?_
      refine g_getp (q0 := 60) (b := 4) rfl ff_X8_12 dX8_isEmptyByItself_57 rfl hOK (by decide) (sh_3 hOK) rfl (by decide) ?_
      refine g_iload_n (q0 := 61) (j := 2) rfl dX8_isEmptyByItself_60 rfl ?_
      refine g_iconst (q0 := 62) rfl dX8_isEmptyByItself_61 (k := ?_)
      obtain ⟨v62, e62, h⟩ := h
      refine g_callVp (as := [_, _, _]) (rest := [_, _]) mt_X5_foreAt mi_X5_foreAt se_X5_foreAt ml_X8_72 dX8_isEmptyByItself_62 (q0 := 65) rfl rfl g1.1 rfl rfl e62 rfl ⟨by decide, by decide⟩ (Nat.le_of_ble_eq_true rfl) ⟨Nat.zero_le _, Nat.zero_le _⟩ (fun _ => ?_)
      obtain ⟨g3, h⟩ := h
      refine g_iald (q0 := 66) rfl dX8_isEmptyByItself_65 (sh_7 hOK) g3.1 g3.2 ?_
      refine g_icmp_ne (q0 := 69) (tgt := 73) rfl dX8_isEmptyByItself_66 (by decide) (fun h66 => ?_) (fun h66 => ?_)
      · replace h := wI_neg h66 h
        refine g_iconst (q0 := 74) rfl dX8_isEmptyByItself_73 (k := ?_)
        exact g_zreturn dX8_isEmptyByItself_74 rfl (gnz (Or.inl rfl)) ⟨Nat.zero_le _, Nat.zero_le _⟩ h
      · replace h := wI_pos h66 h
        refine g_iconst (q0 := 70) rfl dX8_isEmptyByItself_69 (k := ?_)
        refine g_goto (tgt := 74) dX8_isEmptyByItself_70 (by decide) ?_
        exact g_zreturn dX8_isEmptyByItself_74 rfl (gnz (Or.inr rfl)) ⟨Nat.zero_le _, Nat.zero_le _⟩ h
  · replace h := wI_pos h11 h
    refine g_aload_n (q0 := 15) (j := 0) rfl dX8_isEmptyByItself_14 rfl ?_
    refine g_getp (q0 := 18) (b := 4) rfl ff_X8_12 dX8_isEmptyByItself_15 rfl hOK (by decide) (sh_3 hOK) rfl (by decide) ?_
    refine g_iload_n (q0 := 19) (j := 2) rfl dX8_isEmptyByItself_18 rfl ?_
    obtain ⟨v19, e19, h⟩ := h
    refine g_callVp (as := [_]) (rest := []) mt_X1_tree mi_X1_tree se_X1_tree ml_X8_127 dX8_isEmptyByItself_19 (q0 := 22) rfl rfl (sh_4 hOK) rfl rfl e19 rfl ⟨by decide, by decide⟩ (Nat.le_of_ble_eq_true rfl) ⟨Nat.zero_le _, Nat.zero_le _⟩ (fun _ => ?_)
    obtain ⟨g4, h⟩ := h
    refine g_getf (q0 := 25) (t := 0) (fi := 2) rfl rfl ff_X8_171 dX8_isEmptyByItself_22 rfl g4.1 ?_
    refine g_if_ne (q0 := 28) (tgt := 32) rfl dX8_isEmptyByItself_25 (by decide) (fun h25 => ?_) (fun h25 => ?_)
    · replace h := wI_neg h25 h
      refine g_iconst (q0 := 33) rfl dX8_isEmptyByItself_32 (k := ?_)
      exact g_zreturn dX8_isEmptyByItself_33 rfl (gnz (Or.inl rfl)) ⟨Nat.zero_le _, Nat.zero_le _⟩ h
    · replace h := wI_pos h25 h
      refine g_iconst (q0 := 29) rfl dX8_isEmptyByItself_28 (k := ?_)
      refine g_goto (tgt := 33) dX8_isEmptyByItself_29 (by decide) ?_
      exact g_zreturn dX8_isEmptyByItself_33 rfl (gnz (Or.inr rfl)) ⟨Nat.zero_le _, Nat.zero_le _⟩ h
