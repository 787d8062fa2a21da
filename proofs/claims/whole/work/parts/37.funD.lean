-- ==== rewrites
theorem dX12_rewrites_0 : decode cX12_rewrites 0 = .ok (.aload_n 0, 1) := by decide +kernel
theorem dX12_rewrites_1 : decode cX12_rewrites 1 = .ok (.iload_n 1, 1) := by decide +kernel
theorem dX12_rewrites_2 : decode cX12_rewrites 2 = .ok (.iload_n 2, 1) := by decide +kernel
theorem dX12_rewrites_3 : decode cX12_rewrites 3 = .ok (.invokevirtual 561, 3) := by decide +kernel
theorem dX12_rewrites_6 : decode cX12_rewrites 6 = .ok (.aload_n 0, 1) := by decide +kernel
theorem dX12_rewrites_7 : decode cX12_rewrites 7 = .ok (.iload_n 1, 1) := by decide +kernel
theorem dX12_rewrites_8 : decode cX12_rewrites 8 = .ok (.iload_n 2, 1) := by decide +kernel
theorem dX12_rewrites_9 : decode cX12_rewrites 9 = .ok (.invokevirtual 564, 3) := by decide +kernel
theorem dX12_rewrites_12 : decode cX12_rewrites 12 = .ok (.aload_n 0, 1) := by decide +kernel
theorem dX12_rewrites_13 : decode cX12_rewrites 13 = .ok (.iload_n 1, 1) := by decide +kernel
theorem dX12_rewrites_14 : decode cX12_rewrites 14 = .ok (.iload_n 2, 1) := by decide +kernel
theorem dX12_rewrites_15 : decode cX12_rewrites 15 = .ok (.invokevirtual 567, 3) := by decide +kernel
theorem dX12_rewrites_18 : decode cX12_rewrites 18 = .ok (.istore_n 3, 1) := by decide +kernel
theorem dX12_rewrites_19 : decode cX12_rewrites 19 = .ok (.iload_n 3, 1) := by decide +kernel
theorem dX12_rewrites_20 : decode cX12_rewrites 20 = .ok (.ifCond .ne 12, 3) := by decide +kernel
theorem dX12_rewrites_23 : decode cX12_rewrites 23 = .ok (.aload_n 0, 1) := by decide +kernel
theorem dX12_rewrites_24 : decode cX12_rewrites 24 = .ok (.iload_n 1, 1) := by decide +kernel
theorem dX12_rewrites_25 : decode cX12_rewrites 25 = .ok (.iload_n 2, 1) := by decide +kernel
theorem dX12_rewrites_26 : decode cX12_rewrites 26 = .ok (.invokevirtual 570, 3) := by decide +kernel
theorem dX12_rewrites_29 : decode cX12_rewrites 29 = .ok (.ifCond .eq 37, 3) := by decide +kernel
theorem dX12_rewrites_32 : decode cX12_rewrites 32 = .ok (.aload_n 0, 1) := by decide +kernel
theorem dX12_rewrites_33 : decode cX12_rewrites 33 = .ok (.iload_n 1, 1) := by decide +kernel
theorem dX12_rewrites_34 : decode cX12_rewrites 34 = .ok (.iload_n 2, 1) := by decide +kernel
theorem dX12_rewrites_35 : decode cX12_rewrites 35 = .ok (.iload_n 3, 1) := by decide +kernel
theorem dX12_rewrites_36 : decode cX12_rewrites 36 = .ok (.ifCond .eq 7, 3) := by decide +kernel
theorem dX12_rewrites_39 : decode cX12_rewrites 39 = .ok (.iconst 1, 1) := by decide +kernel
theorem dX12_rewrites_40 : decode cX12_rewrites 40 = .ok (.goto 4, 3) := by decide +kernel
theorem dX12_rewrites_43 : decode cX12_rewrites 43 = .ok (.iconst 2, 1) := by decide +kernel
theorem dX12_rewrites_44 : decode cX12_rewrites 44 = .ok (.aload_n 0, 1) := by decide +kernel
theorem dX12_rewrites_45 : decode cX12_rewrites 45 = .ok (.getfield 510, 3) := by decide +kernel
theorem dX12_rewrites_48 : decode cX12_rewrites 48 = .ok (.ifCond .ne 7, 3) := by decide +kernel
theorem dX12_rewrites_51 : decode cX12_rewrites 51 = .ok (.iconst (-1), 1) := by decide +kernel
theorem dX12_rewrites_52 : decode cX12_rewrites 52 = .ok (.goto 9, 3) := by decide +kernel
theorem dX12_rewrites_55 : decode cX12_rewrites 55 = .ok (.aload_n 0, 1) := by decide +kernel
theorem dX12_rewrites_56 : decode cX12_rewrites 56 = .ok (.getfield 75, 3) := by decide +kernel
theorem dX12_rewrites_59 : decode cX12_rewrites 59 = .ok (.iconst 0, 1) := by decide +kernel
theorem dX12_rewrites_60 : decode cX12_rewrites 60 = .ok (.iaload, 1) := by decide +kernel
theorem dX12_rewrites_61 : decode cX12_rewrites 61 = .ok (.invokevirtual 573, 3) := by decide +kernel
theorem dX12_rewrites_64 : decode cX12_rewrites 64 = .ok (.iconst 1, 1) := by decide +kernel
theorem dX12_rewrites_65 : decode cX12_rewrites 65 = .ok (.ireturn, 1) := by decide +kernel
theorem dX12_rewrites_66 : decode cX12_rewrites 66 = .ok (.aload_n 0, 1) := by decide +kernel
theorem dX12_rewrites_67 : decode cX12_rewrites 67 = .ok (.iload_n 1, 1) := by decide +kernel
theorem dX12_rewrites_68 : decode cX12_rewrites 68 = .ok (.iload_n 2, 1) := by decide +kernel
theorem dX12_rewrites_69 : decode cX12_rewrites 69 = .ok (.invokevirtual 576, 3) := by decide +kernel
theorem dX12_rewrites_72 : decode cX12_rewrites 72 = .ok (.aload_n 0, 1) := by decide +kernel
theorem dX12_rewrites_73 : decode cX12_rewrites 73 = .ok (.aload_n 0, 1) := by decide +kernel
theorem dX12_rewrites_74 : decode cX12_rewrites 74 = .ok (.getfield 510, 3) := by decide +kernel
theorem dX12_rewrites_77 : decode cX12_rewrites 77 = .ok (.putfield 186, 3) := by decide +kernel
theorem dX12_rewrites_80 : decode cX12_rewrites 80 = .ok (.iconst 0, 1) := by decide +kernel
theorem dX12_rewrites_81 : decode cX12_rewrites 81 = .ok (.istore 4, 2) := by decide +kernel
theorem dX12_rewrites_83 : decode cX12_rewrites 83 = .ok (.iload 4, 2) := by decide +kernel
theorem dX12_rewrites_85 : decode cX12_rewrites 85 = .ok (.aload_n 0, 1) := by decide +kernel
theorem dX12_rewrites_86 : decode cX12_rewrites 86 = .ok (.getfield 510, 3) := by decide +kernel
theorem dX12_rewrites_89 : decode cX12_rewrites 89 = .ok (.if_icmp .ge 23, 3) := by decide +kernel
theorem dX12_rewrites_92 : decode cX12_rewrites 92 = .ok (.aload_n 0, 1) := by decide +kernel
theorem dX12_rewrites_93 : decode cX12_rewrites 93 = .ok (.getfield 37, 3) := by decide +kernel
theorem dX12_rewrites_96 : decode cX12_rewrites 96 = .ok (.iload 4, 2) := by decide +kernel
theorem dX12_rewrites_98 : decode cX12_rewrites 98 = .ok (.aload_n 0, 1) := by decide +kernel
theorem dX12_rewrites_99 : decode cX12_rewrites 99 = .ok (.getfield 75, 3) := by decide +kernel
theorem dX12_rewrites_102 : decode cX12_rewrites 102 = .ok (.iload 4, 2) := by decide +kernel
theorem dX12_rewrites_104 : decode cX12_rewrites 104 = .ok (.iaload, 1) := by decide +kernel
theorem dX12_rewrites_105 : decode cX12_rewrites 105 = .ok (.iastore, 1) := by decide +kernel
theorem dX12_rewrites_106 : decode cX12_rewrites 106 = .ok (.iinc 4 1, 3) := by decide +kernel
theorem dX12_rewrites_109 : decode cX12_rewrites 109 = .ok (.goto (-26), 3) := by decide +kernel
theorem dX12_rewrites_112 : decode cX12_rewrites 112 = .ok (.aload_n 0, 1) := by decide +kernel
theorem dX12_rewrites_113 : decode cX12_rewrites 113 = .ok (.getfield 63, 3) := by decide +kernel
theorem dX12_rewrites_116 : decode cX12_rewrites 116 = .ok (.bipush 68, 2) := by decide +kernel
theorem dX12_rewrites_118 : decode cX12_rewrites 118 = .ok (.iload_n 1, 1) := by decide +kernel
theorem dX12_rewrites_119 : decode cX12_rewrites 119 = .ok (.imul, 1) := by decide +kernel
theorem dX12_rewrites_120 : decode cX12_rewrites 120 = .ok (.bipush 58, 2) := by decide +kernel
theorem dX12_rewrites_122 : decode cX12_rewrites 122 = .ok (.iadd, 1) := by decide +kernel
theorem dX12_rewrites_123 : decode cX12_rewrites 123 = .ok (.aload_n 0, 1) := by decide +kernel
theorem dX12_rewrites_124 : decode cX12_rewrites 124 = .ok (.getfield 16, 3) := by decide +kernel
theorem dX12_rewrites_127 : decode cX12_rewrites 127 = .ok (.iload_n 2, 1) := by decide +kernel
theorem dX12_rewrites_128 : decode cX12_rewrites 128 = .ok (.iaload, 1) := by decide +kernel
theorem dX12_rewrites_129 : decode cX12_rewrites 129 = .ok (.iadd, 1) := by decide +kernel
theorem dX12_rewrites_130 : decode cX12_rewrites 130 = .ok (.iaload, 1) := by decide +kernel
theorem dX12_rewrites_131 : decode cX12_rewrites 131 = .ok (.istore 4, 2) := by decide +kernel
theorem dX12_rewrites_133 : decode cX12_rewrites 133 = .ok (.aload_n 0, 1) := by decide +kernel
theorem dX12_rewrites_134 : decode cX12_rewrites 134 = .ok (.bipush 121, 2) := by decide +kernel
theorem dX12_rewrites_136 : decode cX12_rewrites 136 = .ok (.iload 4, 2) := by decide +kernel
theorem dX12_rewrites_138 : decode cX12_rewrites 138 = .ok (.iconst (-1), 1) := by decide +kernel
theorem dX12_rewrites_139 : decode cX12_rewrites 139 = .ok (.if_icmp .ne 12, 3) := by decide +kernel
theorem dX12_rewrites_142 : decode cX12_rewrites 142 = .ok (.aload_n 0, 1) := by decide +kernel
theorem dX12_rewrites_143 : decode cX12_rewrites 143 = .ok (.getfield 16, 3) := by decide +kernel
theorem dX12_rewrites_146 : decode cX12_rewrites 146 = .ok (.iload_n 2, 1) := by decide +kernel
theorem dX12_rewrites_147 : decode cX12_rewrites 147 = .ok (.iaload, 1) := by decide +kernel
theorem dX12_rewrites_148 : decode cX12_rewrites 148 = .ok (.goto 5, 3) := by decide +kernel
theorem dX12_rewrites_151 : decode cX12_rewrites 151 = .ok (.iload 4, 2) := by decide +kernel
theorem dX12_rewrites_153 : decode cX12_rewrites 153 = .ok (.aload_n 0, 1) := by decide +kernel
theorem dX12_rewrites_154 : decode cX12_rewrites 154 = .ok (.getfield 19, 3) := by decide +kernel
theorem dX12_rewrites_157 : decode cX12_rewrites 157 = .ok (.iload_n 2, 1) := by decide +kernel
theorem dX12_rewrites_158 : decode cX12_rewrites 158 = .ok (.iaload, 1) := by decide +kernel
theorem dX12_rewrites_159 : decode cX12_rewrites 159 = .ok (.invokevirtual 350, 3) := by decide +kernel
theorem dX12_rewrites_162 : decode cX12_rewrites 162 = .ok (.istore 5, 2) := by decide +kernel
theorem dX12_rewrites_164 : decode cX12_rewrites 164 = .ok (.aload_n 0, 1) := by decide +kernel
theorem dX12_rewrites_165 : decode cX12_rewrites 165 = .ok (.iload_n 1, 1) := by decide +kernel
theorem dX12_rewrites_166 : decode cX12_rewrites 166 = .ok (.iload_n 2, 1) := by decide +kernel
theorem dX12_rewrites_167 : decode cX12_rewrites 167 = .ok (.iconst 0, 1) := by decide +kernel
theorem dX12_rewrites_168 : decode cX12_rewrites 168 = .ok (.iload 5, 2) := by decide +kernel
theorem dX12_rewrites_170 : decode cX12_rewrites 170 = .ok (.invokevirtual 573, 3) := by decide +kernel
theorem dX12_rewrites_173 : decode cX12_rewrites 173 = .ok (.iload 5, 2) := by decide +kernel
theorem dX12_rewrites_175 : decode cX12_rewrites 175 = .ok (.ifCond .lt 7, 3) := by decide +kernel
theorem dX12_rewrites_178 : decode cX12_rewrites 178 = .ok (.iconst 1, 1) := by decide +kernel
theorem dX12_rewrites_179 : decode cX12_rewrites 179 = .ok (.goto 4, 3) := by decide +kernel
theorem dX12_rewrites_182 : decode cX12_rewrites 182 = .ok (.iconst 0, 1) := by decide +kernel
theorem dX12_rewrites_183 : decode cX12_rewrites 183 = .ok (.ireturn, 1) := by decide +kernel
noncomputable def st_rewrites : Nat × List Int × gM → Option ((Nat × List Int × gM) ⊕ (Int × gM))
  | (0, [x1, x2, x3], M) => (if x3 = 0 then
      (if (M 711 37) = 0 then
        (Option.bind (F_maps M x1 x2 2 (-1)) (fun m61 =>
          some (.inr (1, m61))))
      else
        (Option.bind (F_maps M x1 x2 2 (M 733 0)) (fun m61 =>
          some (.inr (1, m61)))))
    else
      (if (M 711 37) = 0 then
        (Option.bind (F_maps M x1 x2 1 (-1)) (fun m61 =>
          some (.inr (1, m61))))
      else
        (Option.bind (F_maps M x1 x2 1 (M 733 0)) (fun m61 =>
          some (.inr (1, m61))))))
  | (1, [x1, x2, x3, x4], M) => (if x4 < (M 711 37) then
      (if 0 ≤ x4 ∧ x4 < 3 then
        some (.inl (1, [x1, x2, x3, (gw32 (x4 + 1))], (gU M 721 x4 (M 733 x4))))
      else none)
    else
      (if 0 ≤ x2 ∧ x2 < 120 then
        (if 0 ≤ (gw32 ((gw32 ((gw32 ((68 : Int) * x1)) + (58 : Int))) + (M 714 x2))) ∧ (gw32 ((gw32 ((gw32 ((68 : Int) * x1)) + (58 : Int))) + (M 714 x2))) < 340 then
          (if (M 729 (gw32 ((gw32 ((gw32 ((68 : Int) * x1)) + (58 : Int))) + (M 714 x2)))) = -1 then
            some (.inl (2, [x1, x2, x3, (M 729 (gw32 ((gw32 ((gw32 ((68 : Int) * x1)) + (58 : Int))) + (M 714 x2)))), 121, (M 714 x2)], M))
          else
            some (.inl (2, [x1, x2, x3, (M 729 (gw32 ((gw32 ((gw32 ((68 : Int) * x1)) + (58 : Int))) + (M 714 x2)))), 121, (M 729 (gw32 ((gw32 ((gw32 ((68 : Int) * x1)) + (58 : Int))) + (M 714 x2))))], M)))
        else none)
      else none))
  | (2, [x1, x2, x3, x4, s1, s2], M) => (if 0 ≤ x2 ∧ x2 < 120 then
      (Option.bind (F_comes M s1 s2 (M 715 x2)) (fun p159 =>
        (Option.bind (F_maps p159.2 x1 x2 0 p159.1) (fun m170 =>
          (if p159.1 < 0 then
            some (.inr (0, m170))
          else
            some (.inr (1, m170)))))))
    else none)
  | _ => none
theorem sk_rewrites_32 (k : Nat × List Int × gM → Option (Int × gM)) (M : gM) (x1 x2 x3 : Int) : gWk k (st_rewrites (0, [x1, x2, x3], M)) = (if x3 = 0 then
    (if (M 711 37) = 0 then
      (Option.bind (F_maps M x1 x2 2 (-1)) (fun m61 =>
        some (1, m61)))
    else
      (Option.bind (F_maps M x1 x2 2 (M 733 0)) (fun m61 =>
        some (1, m61))))
  else
    (if (M 711 37) = 0 then
      (Option.bind (F_maps M x1 x2 1 (-1)) (fun m61 =>
        some (1, m61)))
    else
      (Option.bind (F_maps M x1 x2 1 (M 733 0)) (fun m61 =>
        some (1, m61))))) := by
  simp only [st_rewrites, gWk_ite, gWk_bind, gWk_inl, gWk_inr, gWk_none]
theorem sk_rewrites_83 (k : Nat × List Int × gM → Option (Int × gM)) (M : gM) (x1 x2 x3 x4 : Int) : gWk k (st_rewrites (1, [x1, x2, x3, x4], M)) = (if x4 < (M 711 37) then
    (if 0 ≤ x4 ∧ x4 < 3 then
      k (1, [x1, x2, x3, (gw32 (x4 + 1))], (gU M 721 x4 (M 733 x4)))
    else none)
  else
    (if 0 ≤ x2 ∧ x2 < 120 then
      (if 0 ≤ (gw32 ((gw32 ((gw32 ((68 : Int) * x1)) + (58 : Int))) + (M 714 x2))) ∧ (gw32 ((gw32 ((gw32 ((68 : Int) * x1)) + (58 : Int))) + (M 714 x2))) < 340 then
        (if (M 729 (gw32 ((gw32 ((gw32 ((68 : Int) * x1)) + (58 : Int))) + (M 714 x2)))) = -1 then
          k (2, [x1, x2, x3, (M 729 (gw32 ((gw32 ((gw32 ((68 : Int) * x1)) + (58 : Int))) + (M 714 x2)))), 121, (M 714 x2)], M)
        else
          k (2, [x1, x2, x3, (M 729 (gw32 ((gw32 ((gw32 ((68 : Int) * x1)) + (58 : Int))) + (M 714 x2)))), 121, (M 729 (gw32 ((gw32 ((gw32 ((68 : Int) * x1)) + (58 : Int))) + (M 714 x2))))], M))
      else none)
    else none)) := by
  simp only [st_rewrites, gWk_ite, gWk_bind, gWk_inl, gWk_inr, gWk_none]
theorem sk_rewrites_153 (k : Nat × List Int × gM → Option (Int × gM)) (M : gM) (x1 x2 x3 x4 s1 s2 : Int) : gWk k (st_rewrites (2, [x1, x2, x3, x4, s1, s2], M)) = (if 0 ≤ x2 ∧ x2 < 120 then
    (Option.bind (F_comes M s1 s2 (M 715 x2)) (fun p159 =>
      (Option.bind (F_maps p159.2 x1 x2 0 p159.1) (fun m170 =>
        (if p159.1 < 0 then
          some (0, m170)
        else
          some (1, m170))))))
  else none) := by
  simp only [st_rewrites, gWk_ite, gWk_bind, gWk_inl, gWk_inr, gWk_none]
noncomputable def F_rewrites_32 (M : gM) (x1 x2 x3 : Int) : Option (Int × gM) := gWh (st_rewrites) (0, [x1, x2, x3], M)
noncomputable def F_rewrites_83 (M : gM) (x1 x2 x3 x4 : Int) : Option (Int × gM) := gWh (st_rewrites) (1, [x1, x2, x3, x4], M)
noncomputable def F_rewrites_153 (M : gM) (x1 x2 x3 x4 s1 s2 : Int) : Option (Int × gM) := gWh (st_rewrites) (2, [x1, x2, x3, x4, s1, s2], M)
theorem eq_rewrites_32 (M : gM) (x1 x2 x3 : Int) : F_rewrites_32 M x1 x2 x3 = (if x3 = 0 then
    (if (M 711 37) = 0 then
      (Option.bind (F_maps M x1 x2 2 (-1)) (fun m61 =>
        some (1, m61)))
    else
      (Option.bind (F_maps M x1 x2 2 (M 733 0)) (fun m61 =>
        some (1, m61))))
  else
    (if (M 711 37) = 0 then
      (Option.bind (F_maps M x1 x2 1 (-1)) (fun m61 =>
        some (1, m61)))
    else
      (Option.bind (F_maps M x1 x2 1 (M 733 0)) (fun m61 =>
        some (1, m61))))) := (gWh_eq _).trans (sk_rewrites_32 _ M x1 x2 x3)
theorem eq_rewrites_83 (M : gM) (x1 x2 x3 x4 : Int) : F_rewrites_83 M x1 x2 x3 x4 = (if x4 < (M 711 37) then
    (if 0 ≤ x4 ∧ x4 < 3 then
      F_rewrites_83 (gU M 721 x4 (M 733 x4)) x1 x2 x3 (gw32 (x4 + 1))
    else none)
  else
    (if 0 ≤ x2 ∧ x2 < 120 then
      (if 0 ≤ (gw32 ((gw32 ((gw32 ((68 : Int) * x1)) + (58 : Int))) + (M 714 x2))) ∧ (gw32 ((gw32 ((gw32 ((68 : Int) * x1)) + (58 : Int))) + (M 714 x2))) < 340 then
        (if (M 729 (gw32 ((gw32 ((gw32 ((68 : Int) * x1)) + (58 : Int))) + (M 714 x2)))) = -1 then
          F_rewrites_153 M x1 x2 x3 (M 729 (gw32 ((gw32 ((gw32 ((68 : Int) * x1)) + (58 : Int))) + (M 714 x2)))) 121 (M 714 x2)
        else
          F_rewrites_153 M x1 x2 x3 (M 729 (gw32 ((gw32 ((gw32 ((68 : Int) * x1)) + (58 : Int))) + (M 714 x2)))) 121 (M 729 (gw32 ((gw32 ((gw32 ((68 : Int) * x1)) + (58 : Int))) + (M 714 x2)))))
      else none)
    else none)) := (gWh_eq _).trans (sk_rewrites_83 _ M x1 x2 x3 x4)
theorem eq_rewrites_153 (M : gM) (x1 x2 x3 x4 s1 s2 : Int) : F_rewrites_153 M x1 x2 x3 x4 s1 s2 = (if 0 ≤ x2 ∧ x2 < 120 then
    (Option.bind (F_comes M s1 s2 (M 715 x2)) (fun p159 =>
      (Option.bind (F_maps p159.2 x1 x2 0 p159.1) (fun m170 =>
        (if p159.1 < 0 then
          some (0, m170)
        else
          some (1, m170))))))
  else none) := (gWh_eq _).trans (sk_rewrites_153 _ M x1 x2 x3 x4 s1 s2)
noncomputable def F_rewrites (M : gM) (a1 a2 : Int) : Option (Int × gM) := (Option.bind (F_carriesTree M a1 a2) (fun m3 =>
    (Option.bind (F_carriesParents m3 a1 a2) (fun m9 =>
      (Option.bind (F_isEmpty m9 a1 a2) (fun r15 =>
        (if r15 = 0 then
          (Option.bind (F_isSkipped m9 a1 a2) (fun r26 =>
            (if r26 = 0 then
              (Option.bind (F_carriesSaid m9 a1 a2) (fun m69 =>
                F_rewrites_83 (gU m69 711 12 (m69 711 37)) a1 a2 r15 0))
            else
              F_rewrites_32 m9 a1 a2 r15)))
        else
          F_rewrites_32 m9 a1 a2 r15)))))))
theorem eq_rewrites (M : gM) (a1 a2 : Int) : F_rewrites M a1 a2 = (Option.bind (F_carriesTree M a1 a2) (fun m3 =>
    (Option.bind (F_carriesParents m3 a1 a2) (fun m9 =>
      (Option.bind (F_isEmpty m9 a1 a2) (fun r15 =>
        (if r15 = 0 then
          (Option.bind (F_isSkipped m9 a1 a2) (fun r26 =>
            (if r26 = 0 then
              (Option.bind (F_carriesSaid m9 a1 a2) (fun m69 =>
                F_rewrites_83 (gU m69 711 12 (m69 711 37)) a1 a2 r15 0))
            else
              F_rewrites_32 m9 a1 a2 r15)))
        else
          F_rewrites_32 m9 a1 a2 r15))))))) := rfl
theorem frp_rewrites : ∀ (s : Nat × List Int × gM) (b : Int × gM), gWh (st_rewrites) s = some b → (∀ (x1 x2 x3 : Int) (M : gM), s = (0, [x1, x2, x3], M) → gFr [712, 713, 714, 715, 716, 717, 718, 719, 720, 721, 722, 723, 730, 731, 732, 733, 734, 735] [0, 12, 13, 32, 33, 37, 38] M b.2) ∧ (∀ (x1 x2 x3 x4 : Int) (M : gM), s = (1, [x1, x2, x3, x4], M) → gFr [712, 713, 714, 715, 716, 717, 718, 719, 720, 721, 722, 723, 730, 731, 732, 733, 734, 735] [0, 12, 13, 32, 33, 37, 38] M b.2) ∧ (∀ (x1 x2 x3 x4 s1 s2 : Int) (M : gM), s = (2, [x1, x2, x3, x4, s1, s2], M) → gFr [712, 713, 714, 715, 716, 717, 718, 719, 720, 721, 722, 723, 730, 731, 732, 733, 734, 735] [0, 12, 13, 32, 33, 37, 38] M b.2) := by
  refine gWh_ind (fun k hk s b h => ⟨?_, ?_, ?_⟩)
  · rintro x1 x2 x3 M rfl
    rw [sk_rewrites_32] at h
    rcases gI_or h with h | h
    · rcases gI_or h with h | h
      · obtain ⟨m61, e61, h⟩ := gI_bd h
        rw [← Option.some.inj h]
        exact (gFr_t (gFr_r [712, 713, 714, 715, 716, 717, 718, 719, 720, 721, 722, 723, 730, 731, 732, 733, 734, 735] [0, 12, 13, 32, 33, 37, 38] _) (fr_maps (b := m61) e61) (by first | decide | simp) (by decide))
      · obtain ⟨m61, e61, h⟩ := gI_bd h
        rw [← Option.some.inj h]
        exact (gFr_t (gFr_r [712, 713, 714, 715, 716, 717, 718, 719, 720, 721, 722, 723, 730, 731, 732, 733, 734, 735] [0, 12, 13, 32, 33, 37, 38] _) (fr_maps (b := m61) e61) (by first | decide | simp) (by decide))
    · rcases gI_or h with h | h
      · obtain ⟨m61, e61, h⟩ := gI_bd h
        rw [← Option.some.inj h]
        exact (gFr_t (gFr_r [712, 713, 714, 715, 716, 717, 718, 719, 720, 721, 722, 723, 730, 731, 732, 733, 734, 735] [0, 12, 13, 32, 33, 37, 38] _) (fr_maps (b := m61) e61) (by first | decide | simp) (by decide))
      · obtain ⟨m61, e61, h⟩ := gI_bd h
        rw [← Option.some.inj h]
        exact (gFr_t (gFr_r [712, 713, 714, 715, 716, 717, 718, 719, 720, 721, 722, 723, 730, 731, 732, 733, 734, 735] [0, 12, 13, 32, 33, 37, 38] _) (fr_maps (b := m61) e61) (by first | decide | simp) (by decide))
  · rintro x1 x2 x3 x4 M rfl
    rw [sk_rewrites_83] at h
    rcases gI_or h with h | h
    · obtain ⟨g7, h⟩ := gI_gd h
      exact gFr_t (gFr_a (gFr_r [712, 713, 714, 715, 716, 717, 718, 719, 720, 721, 722, 723, 730, 731, 732, 733, 734, 735] [0, 12, 13, 32, 33, 37, 38] _) (.tail _ (.tail _ (.tail _ (.tail _ (.tail _ (.tail _ (.tail _ (.tail _ (.tail _ (.head _)))))))))) (by decide)) ((hk _ _ h).2.1 _ _ _ _ _ rfl) (fun _ z => z) (fun _ z => z)
    · obtain ⟨g5, h⟩ := gI_gd h
      obtain ⟨g6, h⟩ := gI_gd h
      rcases gI_or h with h | h
      · exact gFr_t (gFr_r [712, 713, 714, 715, 716, 717, 718, 719, 720, 721, 722, 723, 730, 731, 732, 733, 734, 735] [0, 12, 13, 32, 33, 37, 38] _) ((hk _ _ h).2.2 _ _ _ _ _ _ _ rfl) (fun _ z => z) (fun _ z => z)
      · exact gFr_t (gFr_r [712, 713, 714, 715, 716, 717, 718, 719, 720, 721, 722, 723, 730, 731, 732, 733, 734, 735] [0, 12, 13, 32, 33, 37, 38] _) ((hk _ _ h).2.2 _ _ _ _ _ _ _ rfl) (fun _ z => z) (fun _ z => z)
  · rintro x1 x2 x3 x4 s1 s2 M rfl
    rw [sk_rewrites_153] at h
    obtain ⟨g9, h⟩ := gI_gd h
    obtain ⟨p159, e159, h⟩ := gI_bd h
    obtain ⟨m170, e170, h⟩ := gI_bd h
    rcases gI_or h with h | h
    · rw [← Option.some.inj h]
      exact (gFr_t (gFr_t (gFr_r [712, 713, 714, 715, 716, 717, 718, 719, 720, 721, 722, 723, 730, 731, 732, 733, 734, 735] [0, 12, 13, 32, 33, 37, 38] _) (fr_comes (b := p159) e159) (by first | decide | simp) (by decide)) (fr_maps (b := m170) e170) (by first | decide | simp) (by decide))
    · rw [← Option.some.inj h]
      exact (gFr_t (gFr_t (gFr_r [712, 713, 714, 715, 716, 717, 718, 719, 720, 721, 722, 723, 730, 731, 732, 733, 734, 735] [0, 12, 13, 32, 33, 37, 38] _) (fr_comes (b := p159) e159) (by first | decide | simp) (by decide)) (fr_maps (b := m170) e170) (by first | decide | simp) (by decide))
theorem fr_rewrites_32 {M : gM} {x1 x2 x3 : Int} {b : Int × gM} (h : F_rewrites_32 M x1 x2 x3 = some b) : gFr [712, 713, 714, 715, 716, 717, 718, 719, 720, 721, 722, 723, 730, 731, 732, 733, 734, 735] [0, 12, 13, 32, 33, 37, 38] M b.2 :=
  (frp_rewrites _ _ h).1 _ _ _ _ rfl
theorem fr_rewrites_83 {M : gM} {x1 x2 x3 x4 : Int} {b : Int × gM} (h : F_rewrites_83 M x1 x2 x3 x4 = some b) : gFr [712, 713, 714, 715, 716, 717, 718, 719, 720, 721, 722, 723, 730, 731, 732, 733, 734, 735] [0, 12, 13, 32, 33, 37, 38] M b.2 :=
  (frp_rewrites _ _ h).2.1 _ _ _ _ _ rfl
theorem fr_rewrites_153 {M : gM} {x1 x2 x3 x4 s1 s2 : Int} {b : Int × gM} (h : F_rewrites_153 M x1 x2 x3 x4 s1 s2 = some b) : gFr [712, 713, 714, 715, 716, 717, 718, 719, 720, 721, 722, 723, 730, 731, 732, 733, 734, 735] [0, 12, 13, 32, 33, 37, 38] M b.2 :=
  (frp_rewrites _ _ h).2.2 _ _ _ _ _ _ _ rfl
theorem fr_rewrites {M : gM} {a1 a2 : Int} {b : Int × gM} (h : F_rewrites M a1 a2 = some b) : gFr [712, 713, 714, 715, 716, 717, 718, 719, 720, 721, 722, 723, 730, 731, 732, 733, 734, 735] [0, 12, 13, 32, 33, 37, 38] M b.2 := by
  rw [eq_rewrites] at h
  obtain ⟨m3, e3, h⟩ := gI_bd h
  obtain ⟨m9, e9, h⟩ := gI_bd h
  obtain ⟨r15, e15, h⟩ := gI_bd h
  rcases gI_or h with h | h
  · obtain ⟨r26, e26, h⟩ := gI_bd h
    rcases gI_or h with h | h
    · obtain ⟨m69, e69, h⟩ := gI_bd h
      exact gFr_t (gFr_f (gFr_t (gFr_t (gFr_t (gFr_r [712, 713, 714, 715, 716, 717, 718, 719, 720, 721, 722, 723, 730, 731, 732, 733, 734, 735] [0, 12, 13, 32, 33, 37, 38] _) (fr_carriesTree (b := m3) e3) (by first | decide | simp) (by decide)) (fr_carriesParents (b := m9) e9) (by first | decide | simp) (by decide)) (fr_carriesSaid (b := m69) e69) (by first | decide | simp) (by decide)) (.tail _ (.head _))) (fr_rewrites_83 h) (fun _ z => z) (fun _ z => z)
    · exact gFr_t (gFr_t (gFr_t (gFr_r [712, 713, 714, 715, 716, 717, 718, 719, 720, 721, 722, 723, 730, 731, 732, 733, 734, 735] [0, 12, 13, 32, 33, 37, 38] _) (fr_carriesTree (b := m3) e3) (by first | decide | simp) (by decide)) (fr_carriesParents (b := m9) e9) (by first | decide | simp) (by decide)) (fr_rewrites_32 h) (fun _ z => z) (fun _ z => z)
  · exact gFr_t (gFr_t (gFr_t (gFr_r [712, 713, 714, 715, 716, 717, 718, 719, 720, 721, 722, 723, 730, 731, 732, 733, 734, 735] [0, 12, 13, 32, 33, 37, 38] _) (fr_carriesTree (b := m3) e3) (by first | decide | simp) (by decide)) (fr_carriesParents (b := m9) e9) (by first | decide | simp) (by decide)) (fr_rewrites_32 h) (fun _ z => z) (fun _ z => z)
theorem bop_rewrites : ∀ (s : Nat × List Int × gM) (b : Int × gM), gWh (st_rewrites) s = some b → (∀ (x1 x2 x3 : Int) (M : gM), s = (0, [x1, x2, x3], M) → b.1 = 0 ∨ b.1 = 1) ∧ (∀ (x1 x2 x3 x4 : Int) (M : gM), s = (1, [x1, x2, x3, x4], M) → b.1 = 0 ∨ b.1 = 1) ∧ (∀ (x1 x2 x3 x4 s1 s2 : Int) (M : gM), s = (2, [x1, x2, x3, x4, s1, s2], M) → b.1 = 0 ∨ b.1 = 1) := by
  refine gWh_ind (fun k hk s b h => ⟨?_, ?_, ?_⟩)
  · rintro x1 x2 x3 M rfl
    rw [sk_rewrites_32] at h
    rcases gI_or h with h | h
    · rcases gI_or h with h | h
      · obtain ⟨m61, e61, h⟩ := gI_bd h
        rw [← Option.some.inj h]
        exact (Or.inr rfl)
      · obtain ⟨m61, e61, h⟩ := gI_bd h
        rw [← Option.some.inj h]
        exact (Or.inr rfl)
    · rcases gI_or h with h | h
      · obtain ⟨m61, e61, h⟩ := gI_bd h
        rw [← Option.some.inj h]
        exact (Or.inr rfl)
      · obtain ⟨m61, e61, h⟩ := gI_bd h
        rw [← Option.some.inj h]
        exact (Or.inr rfl)
  · rintro x1 x2 x3 x4 M rfl
    rw [sk_rewrites_83] at h
    rcases gI_or h with h | h
    · obtain ⟨g7, h⟩ := gI_gd h
      exact (hk _ _ h).2.1 _ _ _ _ _ rfl
    · obtain ⟨g5, h⟩ := gI_gd h
      obtain ⟨g6, h⟩ := gI_gd h
      rcases gI_or h with h | h
      · exact (hk _ _ h).2.2 _ _ _ _ _ _ _ rfl
      · exact (hk _ _ h).2.2 _ _ _ _ _ _ _ rfl
  · rintro x1 x2 x3 x4 s1 s2 M rfl
    rw [sk_rewrites_153] at h
    obtain ⟨g9, h⟩ := gI_gd h
    obtain ⟨p159, e159, h⟩ := gI_bd h
    obtain ⟨m170, e170, h⟩ := gI_bd h
    rcases gI_or h with h | h
    · rw [← Option.some.inj h]
      exact (Or.inl rfl)
    · rw [← Option.some.inj h]
      exact (Or.inr rfl)
theorem bo_rewrites_32 {M : gM} {x1 x2 x3 : Int} {b : Int × gM} (h : F_rewrites_32 M x1 x2 x3 = some b) : b.1 = 0 ∨ b.1 = 1 :=
  (bop_rewrites _ _ h).1 _ _ _ _ rfl
theorem bo_rewrites_83 {M : gM} {x1 x2 x3 x4 : Int} {b : Int × gM} (h : F_rewrites_83 M x1 x2 x3 x4 = some b) : b.1 = 0 ∨ b.1 = 1 :=
  (bop_rewrites _ _ h).2.1 _ _ _ _ _ rfl
theorem bo_rewrites_153 {M : gM} {x1 x2 x3 x4 s1 s2 : Int} {b : Int × gM} (h : F_rewrites_153 M x1 x2 x3 x4 s1 s2 = some b) : b.1 = 0 ∨ b.1 = 1 :=
  (bop_rewrites _ _ h).2.2 _ _ _ _ _ _ _ rfl
theorem bo_rewrites {M : gM} {a1 a2 : Int} {b : Int × gM} (h : F_rewrites M a1 a2 = some b) : b.1 = 0 ∨ b.1 = 1 := by
  rw [eq_rewrites] at h
  obtain ⟨m3, e3, h⟩ := gI_bd h
  obtain ⟨m9, e9, h⟩ := gI_bd h
  obtain ⟨r15, e15, h⟩ := gI_bd h
  rcases gI_or h with h | h
  · obtain ⟨r26, e26, h⟩ := gI_bd h
    rcases gI_or h with h | h
    · obtain ⟨m69, e69, h⟩ := gI_bd h
      exact bo_rewrites_83 h
    · exact bo_rewrites_32 h
  · exact bo_rewrites_32 h
theorem okp_rewrites {sh : gS} : ∀ (s : Nat × List Int × gM) (b : Int × gM), gWh (st_rewrites) s = some b → (∀ (x1 x2 x3 : Int) (M : gM), s = (0, [x1, x2, x3], M) → gOK sh M → gA (gr 9 207) yX12_rewrites cX12_rewrites 6 (some (.boolean)) (gPq sh (some (0, b.1)) b.2) (0, 0) 32 [(4, 711), (0, x1), (0, x2), (0, x3), (9, 0), (9, 0)] [] sh M) ∧ (∀ (x1 x2 x3 x4 : Int) (M : gM), s = (1, [x1, x2, x3, x4], M) → gOK sh M → gA (gr 9 207) yX12_rewrites cX12_rewrites 6 (some (.boolean)) (gPq sh (some (0, b.1)) b.2) (0, 0) 83 [(4, 711), (0, x1), (0, x2), (0, x3), (0, x4), (9, 0)] [] sh M) ∧ (∀ (x1 x2 x3 x4 s1 s2 : Int) (M : gM), s = (2, [x1, x2, x3, x4, s1, s2], M) → gOK sh M → gA (gr 9 207) yX12_rewrites cX12_rewrites 6 (some (.boolean)) (gPq sh (some (0, b.1)) b.2) (0, 0) 153 [(4, 711), (0, x1), (0, x2), (0, x3), (0, x4), (9, 0)] [(0, s2), (0, s1), (4, 711)] sh M) := by
  refine gWh_ind (fun k hk s b h => ⟨?_, ?_, ?_⟩)
  · rintro x1 x2 x3 M rfl hOK
    rw [sk_rewrites_32] at h
    refine g_aload_n (q0 := 33) (j := 0) rfl dX12_rewrites_32 rfl ?_
    refine g_iload_n (q0 := 34) (j := 1) rfl dX12_rewrites_33 rfl ?_
    refine g_iload_n (q0 := 35) (j := 2) rfl dX12_rewrites_34 rfl ?_
    refine g_iload_n (q0 := 36) (j := 3) rfl dX12_rewrites_35 rfl ?_
    refine g_if_eq (q0 := 39) (tgt := 43) rfl dX12_rewrites_36 (by decide) (fun h36 => ?_) (fun h36 => ?_)
    · replace h := gI_pos h36 h
      refine g_iconst (q0 := 44) rfl dX12_rewrites_43 (k := ?_)
      refine g_aload_n (q0 := 45) (j := 0) rfl dX12_rewrites_44 rfl ?_
      refine g_getf (q0 := 48) (t := 0) (fi := 37) rfl rfl ff_X12_510 dX12_rewrites_45 rfl (sh_711 hOK) ?_
      refine g_if_ne (q0 := 51) (tgt := 55) rfl dX12_rewrites_48 (by decide) (fun h48 => ?_) (fun h48 => ?_)
      · replace h := gI_neg h48 h
        refine g_aload_n (q0 := 56) (j := 0) rfl dX12_rewrites_55 rfl ?_
        refine g_getp (q0 := 59) (b := 733) rfl ff_X12_75 dX12_rewrites_56 rfl hOK (by decide) (sh_711 hOK) rfl (by decide) ?_
        refine g_iconst (q0 := 60) rfl dX12_rewrites_59 (k := ?_)
        refine g_iald (q0 := 61) rfl dX12_rewrites_60 (sh_733 hOK) (by decide) (by decide) ?_
        obtain ⟨m61, e61, h⟩ := gI_bd h
        refine g_callVq0 (as := [_, _, _, _]) (rest := []) mt_X12_maps mi_X12_maps se_X12_maps ml_X12_573 dX12_rewrites_61 (q0 := 64) rfl rfl (sh_711 hOK) rfl rfl (ok_maps hOK e61) rfl ⟨by decide, by decide⟩ (Nat.le_of_ble_eq_true rfl) ⟨Nat.zero_le _, Nat.zero_le _⟩ ?_
        have hOK1 : gOK sh m61 := gOK_fr hOK (fr_maps (b := m61) e61) (by first | decide | (intro a ha; simp only [List.mem_cons, List.not_mem_nil, or_false] at ha; omega)) (by decide)
        refine g_iconst (q0 := 65) rfl dX12_rewrites_64 (k := ?_)
        rw [← Option.some.inj h]
        refine g_zreturn dX12_rewrites_65 rfl (gnz (Or.inr rfl)) ⟨Nat.zero_le _, Nat.zero_le _⟩ ?_
        exact ⟨rfl, rfl, rfl⟩
      · replace h := gI_pos h48 h
        refine g_iconst (q0 := 52) rfl dX12_rewrites_51 (k := ?_)
        refine g_goto (tgt := 61) dX12_rewrites_52 (by decide) ?_
        obtain ⟨m61, e61, h⟩ := gI_bd h
        refine g_callVq0 (as := [_, _, _, _]) (rest := []) mt_X12_maps mi_X12_maps se_X12_maps ml_X12_573 dX12_rewrites_61 (q0 := 64) rfl rfl (sh_711 hOK) rfl rfl (ok_maps hOK e61) rfl ⟨by decide, by decide⟩ (Nat.le_of_ble_eq_true rfl) ⟨Nat.zero_le _, Nat.zero_le _⟩ ?_
        have hOK2 : gOK sh m61 := gOK_fr hOK (fr_maps (b := m61) e61) (by first | decide | (intro a ha; simp only [List.mem_cons, List.not_mem_nil, or_false] at ha; omega)) (by decide)
        refine g_iconst (q0 := 65) rfl dX12_rewrites_64 (k := ?_)
        rw [← Option.some.inj h]
        refine g_zreturn dX12_rewrites_65 rfl (gnz (Or.inr rfl)) ⟨Nat.zero_le _, Nat.zero_le _⟩ ?_
        exact ⟨rfl, rfl, rfl⟩
    · replace h := gI_neg h36 h
      refine g_iconst (q0 := 40) rfl dX12_rewrites_39 (k := ?_)
      refine g_goto (tgt := 44) dX12_rewrites_40 (by decide) ?_
      refine g_aload_n (q0 := 45) (j := 0) rfl dX12_rewrites_44 rfl ?_
      refine g_getf (q0 := 48) (t := 0) (fi := 37) rfl rfl ff_X12_510 dX12_rewrites_45 rfl (sh_711 hOK) ?_
      refine g_if_ne (q0 := 51) (tgt := 55) rfl dX12_rewrites_48 (by decide) (fun h48 => ?_) (fun h48 => ?_)
      · replace h := gI_neg h48 h
        refine g_aload_n (q0 := 56) (j := 0) rfl dX12_rewrites_55 rfl ?_
        refine g_getp (q0 := 59) (b := 733) rfl ff_X12_75 dX12_rewrites_56 rfl hOK (by decide) (sh_711 hOK) rfl (by decide) ?_
        refine g_iconst (q0 := 60) rfl dX12_rewrites_59 (k := ?_)
        refine g_iald (q0 := 61) rfl dX12_rewrites_60 (sh_733 hOK) (by decide) (by decide) ?_
        obtain ⟨m61, e61, h⟩ := gI_bd h
        refine g_callVq0 (as := [_, _, _, _]) (rest := []) mt_X12_maps mi_X12_maps se_X12_maps ml_X12_573 dX12_rewrites_61 (q0 := 64) rfl rfl (sh_711 hOK) rfl rfl (ok_maps hOK e61) rfl ⟨by decide, by decide⟩ (Nat.le_of_ble_eq_true rfl) ⟨Nat.zero_le _, Nat.zero_le _⟩ ?_
        have hOK3 : gOK sh m61 := gOK_fr hOK (fr_maps (b := m61) e61) (by first | decide | (intro a ha; simp only [List.mem_cons, List.not_mem_nil, or_false] at ha; omega)) (by decide)
        refine g_iconst (q0 := 65) rfl dX12_rewrites_64 (k := ?_)
        rw [← Option.some.inj h]
        refine g_zreturn dX12_rewrites_65 rfl (gnz (Or.inr rfl)) ⟨Nat.zero_le _, Nat.zero_le _⟩ ?_
        exact ⟨rfl, rfl, rfl⟩
      · replace h := gI_pos h48 h
        refine g_iconst (q0 := 52) rfl dX12_rewrites_51 (k := ?_)
        refine g_goto (tgt := 61) dX12_rewrites_52 (by decide) ?_
        obtain ⟨m61, e61, h⟩ := gI_bd h
        refine g_callVq0 (as := [_, _, _, _]) (rest := []) mt_X12_maps mi_X12_maps se_X12_maps ml_X12_573 dX12_rewrites_61 (q0 := 64) rfl rfl (sh_711 hOK) rfl rfl (ok_maps hOK e61) rfl ⟨by decide, by decide⟩ (Nat.le_of_ble_eq_true rfl) ⟨Nat.zero_le _, Nat.zero_le _⟩ ?_
        have hOK4 : gOK sh m61 := gOK_fr hOK (fr_maps (b := m61) e61) (by first | decide | (intro a ha; simp only [List.mem_cons, List.not_mem_nil, or_false] at ha; omega)) (by decide)
        refine g_iconst (q0 := 65) rfl dX12_rewrites_64 (k := ?_)
        rw [← Option.some.inj h]
        refine g_zreturn dX12_rewrites_65 rfl (gnz (Or.inr rfl)) ⟨Nat.zero_le _, Nat.zero_le _⟩ ?_
        exact ⟨rfl, rfl, rfl⟩
  · rintro x1 x2 x3 x4 M rfl hOK
    rw [sk_rewrites_83] at h
    refine g_iload (q0 := 85) (j := 4) rfl dX12_rewrites_83 rfl ?_
    refine g_aload_n (q0 := 86) (j := 0) rfl dX12_rewrites_85 rfl ?_
    refine g_getf (q0 := 89) (t := 0) (fi := 37) rfl rfl ff_X12_510 dX12_rewrites_86 rfl (sh_711 hOK) ?_
    refine g_icmp_ge (q0 := 92) (tgt := 112) rfl dX12_rewrites_89 (by decide) (fun h89 => ?_) (fun h89 => ?_)
    · replace h := gI_neg (Int.not_lt.mpr h89) h
      refine g_aload_n (q0 := 113) (j := 0) rfl dX12_rewrites_112 rfl ?_
      refine g_getp (q0 := 116) (b := 729) rfl ff_X12_63 dX12_rewrites_113 rfl hOK (by decide) (sh_711 hOK) rfl (by decide) ?_
      refine g_bipush (q0 := 118) rfl dX12_rewrites_116 (k := ?_)
      refine g_iload_n (q0 := 119) (j := 1) rfl dX12_rewrites_118 rfl ?_
      refine g_imulw (q0 := 120) rfl dX12_rewrites_119 ?_
      refine g_bipush (q0 := 122) rfl dX12_rewrites_120 (k := ?_)
      refine g_iaddw (q0 := 123) rfl dX12_rewrites_122 ?_
      refine g_aload_n (q0 := 124) (j := 0) rfl dX12_rewrites_123 rfl ?_
      refine g_getp (q0 := 127) (b := 714) rfl ff_X12_16 dX12_rewrites_124 rfl hOK (by decide) (sh_711 hOK) rfl (by decide) ?_
      refine g_iload_n (q0 := 128) (j := 2) rfl dX12_rewrites_127 rfl ?_
      obtain ⟨g5, h⟩ := gI_gd h
      refine g_iald (q0 := 129) rfl dX12_rewrites_128 (sh_714 hOK) g5.1 g5.2 ?_
      refine g_iaddw (q0 := 130) rfl dX12_rewrites_129 ?_
      obtain ⟨g6, h⟩ := gI_gd h
      refine g_iald (q0 := 131) rfl dX12_rewrites_130 (sh_729 hOK) g6.1 g6.2 ?_
      refine g_istore (q0 := 133) (j := 4) (lv2 := [_, _, _, _, _, _]) rfl dX12_rewrites_131 (by decide) rfl rfl ?_
      refine g_aload_n (q0 := 134) (j := 0) rfl dX12_rewrites_133 rfl ?_
      refine g_bipush (q0 := 136) rfl dX12_rewrites_134 (k := ?_)
      refine g_iload (q0 := 138) (j := 4) rfl dX12_rewrites_136 rfl ?_
      refine g_iconst (q0 := 139) rfl dX12_rewrites_138 (k := ?_)
      refine g_icmp_ne (q0 := 142) (tgt := 151) rfl dX12_rewrites_139 (by decide) (fun h139 => ?_) (fun h139 => ?_)
      · replace h := gI_neg h139 h
        refine g_iload (q0 := 153) (j := 4) rfl dX12_rewrites_151 rfl ?_
        exact (hk _ _ h).2.2 _ _ _ _ _ _ _ rfl hOK
      · replace h := gI_pos h139 h
        refine g_aload_n (q0 := 143) (j := 0) rfl dX12_rewrites_142 rfl ?_
        refine g_getp (q0 := 146) (b := 714) rfl ff_X12_16 dX12_rewrites_143 rfl hOK (by decide) (sh_711 hOK) rfl (by decide) ?_
        refine g_iload_n (q0 := 147) (j := 2) rfl dX12_rewrites_146 rfl ?_
        refine g_iald (q0 := 148) rfl dX12_rewrites_147 (sh_714 hOK) g5.1 g5.2 ?_
        refine g_goto (tgt := 153) dX12_rewrites_148 (by decide) ?_
        exact (hk _ _ h).2.2 _ _ _ _ _ _ _ rfl hOK
    · replace h := gI_pos h89 h
      refine g_aload_n (q0 := 93) (j := 0) rfl dX12_rewrites_92 rfl ?_
      refine g_getp (q0 := 96) (b := 721) rfl ff_X12_37 dX12_rewrites_93 rfl hOK (by decide) (sh_711 hOK) rfl (by decide) ?_
      refine g_iload (q0 := 98) (j := 4) rfl dX12_rewrites_96 rfl ?_
      refine g_aload_n (q0 := 99) (j := 0) rfl dX12_rewrites_98 rfl ?_
      refine g_getp (q0 := 102) (b := 733) rfl ff_X12_75 dX12_rewrites_99 rfl hOK (by decide) (sh_711 hOK) rfl (by decide) ?_
      refine g_iload (q0 := 104) (j := 4) rfl dX12_rewrites_102 rfl ?_
      obtain ⟨g7, h⟩ := gI_gd h
      refine g_iald (q0 := 105) rfl dX12_rewrites_104 (sh_733 hOK) g7.1 g7.2 ?_
      refine g_iast (q0 := 106) rfl dX12_rewrites_105 (sh_721 hOK) g7.1 g7.2 ?_
      have hOK8 : gOK sh (gU M 721 x4 (M 733 x4)) := gOK_i hOK (sh_721 hOK)
      refine g_iincw (q0 := 109) (lv2 := [_, _, _, _, _, _]) rfl dX12_rewrites_106 rfl (by decide) rfl rfl ?_
      refine g_goto (tgt := 83) dX12_rewrites_109 (by decide) ?_
      exact (hk _ _ h).2.1 _ _ _ _ _ rfl hOK8
  · rintro x1 x2 x3 x4 s1 s2 M rfl hOK
    rw [sk_rewrites_153] at h
    refine g_aload_n (q0 := 154) (j := 0) rfl dX12_rewrites_153 rfl ?_
    refine g_getp (q0 := 157) (b := 715) rfl ff_X12_19 dX12_rewrites_154 rfl hOK (by decide) (sh_711 hOK) rfl (by decide) ?_
    refine g_iload_n (q0 := 158) (j := 2) rfl dX12_rewrites_157 rfl ?_
    obtain ⟨g9, h⟩ := gI_gd h
    refine g_iald (q0 := 159) rfl dX12_rewrites_158 (sh_715 hOK) g9.1 g9.2 ?_
    obtain ⟨p159, e159, h⟩ := gI_bd h
    refine g_callVq1 (as := [_, _, _]) (rest := []) mt_X12_comes mi_X12_comes se_X12_comes ml_X12_350 dX12_rewrites_159 (q0 := 162) rfl rfl (sh_711 hOK) rfl rfl (ok_comes hOK e159) rfl ⟨by decide, by decide⟩ (Nat.le_of_ble_eq_true rfl) ⟨Nat.zero_le _, Nat.zero_le _⟩ ?_
    have hOK10 : gOK sh p159.2 := gOK_fr hOK (fr_comes (b := p159) e159) (by first | decide | (intro a ha; simp only [List.mem_cons, List.not_mem_nil, or_false] at ha; omega)) (by decide)
    refine g_istore (q0 := 164) (j := 5) (lv2 := [_, _, _, _, _, _]) rfl dX12_rewrites_162 (by decide) rfl rfl ?_
    refine g_aload_n (q0 := 165) (j := 0) rfl dX12_rewrites_164 rfl ?_
    refine g_iload_n (q0 := 166) (j := 1) rfl dX12_rewrites_165 rfl ?_
    refine g_iload_n (q0 := 167) (j := 2) rfl dX12_rewrites_166 rfl ?_
    refine g_iconst (q0 := 168) rfl dX12_rewrites_167 (k := ?_)
    refine g_iload (q0 := 170) (j := 5) rfl dX12_rewrites_168 rfl ?_
    obtain ⟨m170, e170, h⟩ := gI_bd h
    refine g_callVq0 (as := [_, _, _, _]) (rest := []) mt_X12_maps mi_X12_maps se_X12_maps ml_X12_573 dX12_rewrites_170 (q0 := 173) rfl rfl (sh_711 hOK10) rfl rfl (ok_maps hOK10 e170) rfl ⟨by decide, by decide⟩ (Nat.le_of_ble_eq_true rfl) ⟨Nat.zero_le _, Nat.zero_le _⟩ ?_
    have hOK11 : gOK sh m170 := gOK_fr hOK10 (fr_maps (b := m170) e170) (by first | decide | (intro a ha; simp only [List.mem_cons, List.not_mem_nil, or_false] at ha; omega)) (by decide)
    refine g_iload (q0 := 175) (j := 5) rfl dX12_rewrites_173 rfl ?_
    refine g_if_lt (q0 := 178) (tgt := 182) rfl dX12_rewrites_175 (by decide) (fun h175 => ?_) (fun h175 => ?_)
    · replace h := gI_pos h175 h
      refine g_iconst (q0 := 183) rfl dX12_rewrites_182 (k := ?_)
      rw [← Option.some.inj h]
      refine g_zreturn dX12_rewrites_183 rfl (gnz (Or.inl rfl)) ⟨Nat.zero_le _, Nat.zero_le _⟩ ?_
      exact ⟨rfl, rfl, rfl⟩
    · replace h := gI_neg (Int.not_lt.mpr h175) h
      refine g_iconst (q0 := 179) rfl dX12_rewrites_178 (k := ?_)
      refine g_goto (tgt := 183) dX12_rewrites_179 (by decide) ?_
      rw [← Option.some.inj h]
      refine g_zreturn dX12_rewrites_183 rfl (gnz (Or.inr rfl)) ⟨Nat.zero_le _, Nat.zero_le _⟩ ?_
      exact ⟨rfl, rfl, rfl⟩
theorem ok_rewrites_32 {sh : gS} {M : gM} {x1 x2 x3 : Int} {b : Int × gM} (hOK : gOK sh M) (h : F_rewrites_32 M x1 x2 x3 = some b) : gA (gr 9 207) yX12_rewrites cX12_rewrites 6 (some (.boolean)) (gPq sh (some (0, b.1)) b.2) (0, 0) 32 [(4, 711), (0, x1), (0, x2), (0, x3), (9, 0), (9, 0)] [] sh M :=
  (okp_rewrites _ _ h).1 _ _ _ _ rfl hOK
theorem ok_rewrites_83 {sh : gS} {M : gM} {x1 x2 x3 x4 : Int} {b : Int × gM} (hOK : gOK sh M) (h : F_rewrites_83 M x1 x2 x3 x4 = some b) : gA (gr 9 207) yX12_rewrites cX12_rewrites 6 (some (.boolean)) (gPq sh (some (0, b.1)) b.2) (0, 0) 83 [(4, 711), (0, x1), (0, x2), (0, x3), (0, x4), (9, 0)] [] sh M :=
  (okp_rewrites _ _ h).2.1 _ _ _ _ _ rfl hOK
theorem ok_rewrites_153 {sh : gS} {M : gM} {x1 x2 x3 x4 s1 s2 : Int} {b : Int × gM} (hOK : gOK sh M) (h : F_rewrites_153 M x1 x2 x3 x4 s1 s2 = some b) : gA (gr 9 207) yX12_rewrites cX12_rewrites 6 (some (.boolean)) (gPq sh (some (0, b.1)) b.2) (0, 0) 153 [(4, 711), (0, x1), (0, x2), (0, x3), (0, x4), (9, 0)] [(0, s2), (0, s1), (4, 711)] sh M :=
  (okp_rewrites _ _ h).2.2 _ _ _ _ _ _ _ rfl hOK
theorem ok_rewrites {sh : gS} {M : gM} {a1 a2 : Int} {b : Int × gM} (hOK : gOK sh M) (h : F_rewrites M a1 a2 = some b) : gC (gr 9 207) yX12_rewrites cX12_rewrites 6 (some (.boolean)) [(4, 711), (0, a1), (0, a2)] sh M (gPq sh (some (0, b.1)) b.2) := by
  rw [eq_rewrites] at h
  refine gC_ofA (lv := [_, _, _, _, _, _]) (by decide +kernel) (Nat.le_of_ble_eq_true rfl) rfl (fun hMw hav => ?_)
  refine g_aload_n (q0 := 1) (j := 0) rfl dX12_rewrites_0 rfl ?_
  refine g_iload_n (q0 := 2) (j := 1) rfl dX12_rewrites_1 rfl ?_
  refine g_iload_n (q0 := 3) (j := 2) rfl dX12_rewrites_2 rfl ?_
  obtain ⟨m3, e3, h⟩ := gI_bd h
  refine g_callVq0 (as := [_, _]) (rest := []) mt_X12_carriesTree mi_X12_carriesTree se_X12_carriesTree ml_X12_561 dX12_rewrites_3 (q0 := 6) rfl rfl (sh_711 hOK) rfl rfl (ok_carriesTree hOK e3) rfl ⟨by decide, by decide⟩ (Nat.le_of_ble_eq_true rfl) ⟨Nat.zero_le _, Nat.zero_le _⟩ ?_
  have hOK12 : gOK sh m3 := gOK_fr hOK (fr_carriesTree (b := m3) e3) (by first | decide | (intro a ha; simp only [List.mem_cons, List.not_mem_nil, or_false] at ha; omega)) (by decide)
  refine g_aload_n (q0 := 7) (j := 0) rfl dX12_rewrites_6 rfl ?_
  refine g_iload_n (q0 := 8) (j := 1) rfl dX12_rewrites_7 rfl ?_
  refine g_iload_n (q0 := 9) (j := 2) rfl dX12_rewrites_8 rfl ?_
  obtain ⟨m9, e9, h⟩ := gI_bd h
  refine g_callVq0 (as := [_, _]) (rest := []) mt_X12_carriesParents mi_X12_carriesParents se_X12_carriesParents ml_X12_564 dX12_rewrites_9 (q0 := 12) rfl rfl (sh_711 hOK12) rfl rfl (ok_carriesParents hOK12 e9) rfl ⟨by decide, by decide⟩ (Nat.le_of_ble_eq_true rfl) ⟨Nat.zero_le _, Nat.zero_le _⟩ ?_
  have hOK13 : gOK sh m9 := gOK_fr hOK12 (fr_carriesParents (b := m9) e9) (by first | decide | (intro a ha; simp only [List.mem_cons, List.not_mem_nil, or_false] at ha; omega)) (by decide)
  refine g_aload_n (q0 := 13) (j := 0) rfl dX12_rewrites_12 rfl ?_
  refine g_iload_n (q0 := 14) (j := 1) rfl dX12_rewrites_13 rfl ?_
  refine g_iload_n (q0 := 15) (j := 2) rfl dX12_rewrites_14 rfl ?_
  obtain ⟨r15, e15, h⟩ := gI_bd h
  refine g_callVq1 (as := [_, _]) (rest := []) mt_X12_isEmpty mi_X12_isEmpty se_X12_isEmpty ml_X12_567 dX12_rewrites_15 (q0 := 18) rfl rfl (sh_711 hOK13) rfl rfl (ok_isEmpty hOK13 e15) rfl ⟨by decide, by decide⟩ (Nat.le_of_ble_eq_true rfl) ⟨Nat.zero_le _, Nat.zero_le _⟩ ?_
  refine g_istore_n (q0 := 19) (j := 3) (lv2 := [_, _, _, _, _, _]) rfl dX12_rewrites_18 (by decide) rfl rfl ?_
  refine g_iload_n (q0 := 20) (j := 3) rfl dX12_rewrites_19 rfl ?_
  refine g_if_ne (q0 := 23) (tgt := 32) rfl dX12_rewrites_20 (by decide) (fun h20 => ?_) (fun h20 => ?_)
  · replace h := gI_neg h20 h
    exact ok_rewrites_32 hOK13 h
  · replace h := gI_pos h20 h
    refine g_aload_n (q0 := 24) (j := 0) rfl dX12_rewrites_23 rfl ?_
    refine g_iload_n (q0 := 25) (j := 1) rfl dX12_rewrites_24 rfl ?_
    refine g_iload_n (q0 := 26) (j := 2) rfl dX12_rewrites_25 rfl ?_
    obtain ⟨r26, e26, h⟩ := gI_bd h
    refine g_callVq1 (as := [_, _]) (rest := []) mt_X12_isSkipped mi_X12_isSkipped se_X12_isSkipped ml_X12_570 dX12_rewrites_26 (q0 := 29) rfl rfl (sh_711 hOK13) rfl rfl (ok_isSkipped hOK13 e26) rfl ⟨by decide, by decide⟩ (Nat.le_of_ble_eq_true rfl) ⟨Nat.zero_le _, Nat.zero_le _⟩ ?_
    refine g_if_eq (q0 := 32) (tgt := 66) rfl dX12_rewrites_29 (by decide) (fun h29 => ?_) (fun h29 => ?_)
    · replace h := gI_pos h29 h
      refine g_aload_n (q0 := 67) (j := 0) rfl dX12_rewrites_66 rfl ?_
      refine g_iload_n (q0 := 68) (j := 1) rfl dX12_rewrites_67 rfl ?_
      refine g_iload_n (q0 := 69) (j := 2) rfl dX12_rewrites_68 rfl ?_
      obtain ⟨m69, e69, h⟩ := gI_bd h
      refine g_callVq0 (as := [_, _]) (rest := []) mt_X12_carriesSaid mi_X12_carriesSaid se_X12_carriesSaid ml_X12_576 dX12_rewrites_69 (q0 := 72) rfl rfl (sh_711 hOK13) rfl rfl (ok_carriesSaid hOK13 e69) rfl ⟨by decide, by decide⟩ (Nat.le_of_ble_eq_true rfl) ⟨Nat.zero_le _, Nat.zero_le _⟩ ?_
      have hOK14 : gOK sh m69 := gOK_fr hOK13 (fr_carriesSaid (b := m69) e69) (by first | decide | (intro a ha; simp only [List.mem_cons, List.not_mem_nil, or_false] at ha; omega)) (by decide)
      refine g_aload_n (q0 := 73) (j := 0) rfl dX12_rewrites_72 rfl ?_
      refine g_aload_n (q0 := 74) (j := 0) rfl dX12_rewrites_73 rfl ?_
      refine g_getf (q0 := 77) (t := 0) (fi := 37) rfl rfl ff_X12_510 dX12_rewrites_74 rfl (sh_711 hOK14) ?_
      refine g_put (q0 := 80) (t := 0) (fi := 12) rfl rfl ff_X12_186 dX12_rewrites_77 rfl (sh_711 hOK14) rfl (fun _ => ⟨rfl, rfl⟩) ?_
      have hOK15 : gOK sh (gU m69 711 12 (m69 711 37)) := gOK_o hOK14 (sh_711 hOK14) (f := 12) rfl rfl
      refine g_iconst (q0 := 81) rfl dX12_rewrites_80 (k := ?_)
      refine g_istore (q0 := 83) (j := 4) (lv2 := [_, _, _, _, _, _]) rfl dX12_rewrites_81 (by decide) rfl rfl ?_
      exact ok_rewrites_83 hOK15 h
    · replace h := gI_neg h29 h
      exact ok_rewrites_32 hOK13 h
-- ==== marksPlan
theorem dX12_marksPlan_0 : decode cX12_marksPlan 0 = .ok (.aload_n 0, 1) := by decide +kernel
theorem dX12_marksPlan_1 : decode cX12_marksPlan 1 = .ok (.getfield 84, 3) := by decide +kernel
theorem dX12_marksPlan_4 : decode cX12_marksPlan 4 = .ok (.invokestatic 206, 3) := by decide +kernel
theorem dX12_marksPlan_7 : decode cX12_marksPlan 7 = .ok (.iconst 0, 1) := by decide +kernel
theorem dX12_marksPlan_8 : decode cX12_marksPlan 8 = .ok (.istore_n 2, 1) := by decide +kernel
theorem dX12_marksPlan_9 : decode cX12_marksPlan 9 = .ok (.iload_n 2, 1) := by decide +kernel
theorem dX12_marksPlan_10 : decode cX12_marksPlan 10 = .ok (.bipush 52, 2) := by decide +kernel
theorem dX12_marksPlan_12 : decode cX12_marksPlan 12 = .ok (.if_icmp .ge 38, 3) := by decide +kernel
theorem dX12_marksPlan_15 : decode cX12_marksPlan 15 = .ok (.aload_n 0, 1) := by decide +kernel
theorem dX12_marksPlan_16 : decode cX12_marksPlan 16 = .ok (.getfield 57, 3) := by decide +kernel
theorem dX12_marksPlan_19 : decode cX12_marksPlan 19 = .ok (.bipush 52, 2) := by decide +kernel
theorem dX12_marksPlan_21 : decode cX12_marksPlan 21 = .ok (.aload_n 0, 1) := by decide +kernel
theorem dX12_marksPlan_22 : decode cX12_marksPlan 22 = .ok (.iload_n 1, 1) := by decide +kernel
theorem dX12_marksPlan_23 : decode cX12_marksPlan 23 = .ok (.iconst 1, 1) := by decide +kernel
theorem dX12_marksPlan_24 : decode cX12_marksPlan 24 = .ok (.invokevirtual 452, 3) := by decide +kernel
theorem dX12_marksPlan_27 : decode cX12_marksPlan 27 = .ok (.imul, 1) := by decide +kernel
theorem dX12_marksPlan_28 : decode cX12_marksPlan 28 = .ok (.iload_n 2, 1) := by decide +kernel
theorem dX12_marksPlan_29 : decode cX12_marksPlan 29 = .ok (.iadd, 1) := by decide +kernel
theorem dX12_marksPlan_30 : decode cX12_marksPlan 30 = .ok (.iaload, 1) := by decide +kernel
theorem dX12_marksPlan_31 : decode cX12_marksPlan 31 = .ok (.istore_n 3, 1) := by decide +kernel
theorem dX12_marksPlan_32 : decode cX12_marksPlan 32 = .ok (.iload_n 3, 1) := by decide +kernel
theorem dX12_marksPlan_33 : decode cX12_marksPlan 33 = .ok (.iconst (-1), 1) := by decide +kernel
theorem dX12_marksPlan_34 : decode cX12_marksPlan 34 = .ok (.if_icmp .eq 10, 3) := by decide +kernel
theorem dX12_marksPlan_37 : decode cX12_marksPlan 37 = .ok (.aload_n 0, 1) := by decide +kernel
theorem dX12_marksPlan_38 : decode cX12_marksPlan 38 = .ok (.getfield 84, 3) := by decide +kernel
theorem dX12_marksPlan_41 : decode cX12_marksPlan 41 = .ok (.iload_n 3, 1) := by decide +kernel
theorem dX12_marksPlan_42 : decode cX12_marksPlan 42 = .ok (.iconst 1, 1) := by decide +kernel
theorem dX12_marksPlan_43 : decode cX12_marksPlan 43 = .ok (.bastore, 1) := by decide +kernel
theorem dX12_marksPlan_44 : decode cX12_marksPlan 44 = .ok (.iinc 2 1, 3) := by decide +kernel
theorem dX12_marksPlan_47 : decode cX12_marksPlan 47 = .ok (.goto (-38), 3) := by decide +kernel
theorem dX12_marksPlan_50 : decode cX12_marksPlan 50 = .ok (.aload_n 0, 1) := by decide +kernel
theorem dX12_marksPlan_51 : decode cX12_marksPlan 51 = .ok (.iload_n 1, 1) := by decide +kernel
theorem dX12_marksPlan_52 : decode cX12_marksPlan 52 = .ok (.aload_n 0, 1) := by decide +kernel
theorem dX12_marksPlan_53 : decode cX12_marksPlan 53 = .ok (.getfield 84, 3) := by decide +kernel
theorem dX12_marksPlan_56 : decode cX12_marksPlan 56 = .ok (.invokevirtual 479, 3) := by decide +kernel
theorem dX12_marksPlan_59 : decode cX12_marksPlan 59 = .ok (.return_, 1) := by decide +kernel
noncomputable def st_marksPlan : Nat × List Int × gM → Option ((Nat × List Int × gM) ⊕ (gM))
  | (0, [x1, x2], M) => (if x2 < 52 then
      (Option.bind (F_ofPlan M x1 1) (fun r24 =>
        (if 0 ≤ (gw32 ((gw32 ((52 : Int) * r24)) + x2)) ∧ (gw32 ((gw32 ((52 : Int) * r24)) + x2)) < 208 then
          (if (M 727 (gw32 ((gw32 ((52 : Int) * r24)) + x2))) = -1 then
            some (.inl (0, [x1, (gw32 (x2 + 1))], M))
          else
            (if 0 ≤ (M 727 (gw32 ((gw32 ((52 : Int) * r24)) + x2))) ∧ (M 727 (gw32 ((gw32 ((52 : Int) * r24)) + x2))) < 120 then
              some (.inl (0, [x1, (gw32 (x2 + 1))], (gU M 736 (M 727 (gw32 ((gw32 ((52 : Int) * r24)) + x2))) 1)))
            else none))
        else none)))
    else
      (Option.bind (F_walksFore M x1 736) (fun m56 =>
        some (.inr m56))))
  | _ => none
theorem sk_marksPlan_9 (k : Nat × List Int × gM → Option (gM)) (M : gM) (x1 x2 : Int) : gWk k (st_marksPlan (0, [x1, x2], M)) = (if x2 < 52 then
    (Option.bind (F_ofPlan M x1 1) (fun r24 =>
      (if 0 ≤ (gw32 ((gw32 ((52 : Int) * r24)) + x2)) ∧ (gw32 ((gw32 ((52 : Int) * r24)) + x2)) < 208 then
        (if (M 727 (gw32 ((gw32 ((52 : Int) * r24)) + x2))) = -1 then
          k (0, [x1, (gw32 (x2 + 1))], M)
        else
          (if 0 ≤ (M 727 (gw32 ((gw32 ((52 : Int) * r24)) + x2))) ∧ (M 727 (gw32 ((gw32 ((52 : Int) * r24)) + x2))) < 120 then
            k (0, [x1, (gw32 (x2 + 1))], (gU M 736 (M 727 (gw32 ((gw32 ((52 : Int) * r24)) + x2))) 1))
          else none))
      else none)))
  else
    (Option.bind (F_walksFore M x1 736) (fun m56 =>
      some m56))) := by
  simp only [st_marksPlan, gWk_ite, gWk_bind, gWk_inl, gWk_inr, gWk_none]
noncomputable def F_marksPlan_9 (M : gM) (x1 x2 : Int) : Option (gM) := gWh (st_marksPlan) (0, [x1, x2], M)
theorem eq_marksPlan_9 (M : gM) (x1 x2 : Int) : F_marksPlan_9 M x1 x2 = (if x2 < 52 then
    (Option.bind (F_ofPlan M x1 1) (fun r24 =>
      (if 0 ≤ (gw32 ((gw32 ((52 : Int) * r24)) + x2)) ∧ (gw32 ((gw32 ((52 : Int) * r24)) + x2)) < 208 then
        (if (M 727 (gw32 ((gw32 ((52 : Int) * r24)) + x2))) = -1 then
          F_marksPlan_9 M x1 (gw32 (x2 + 1))
        else
          (if 0 ≤ (M 727 (gw32 ((gw32 ((52 : Int) * r24)) + x2))) ∧ (M 727 (gw32 ((gw32 ((52 : Int) * r24)) + x2))) < 120 then
            F_marksPlan_9 (gU M 736 (M 727 (gw32 ((gw32 ((52 : Int) * r24)) + x2))) 1) x1 (gw32 (x2 + 1))
          else none))
      else none)))
  else
    (Option.bind (F_walksFore M x1 736) (fun m56 =>
      some m56))) := (gWh_eq _).trans (sk_marksPlan_9 _ M x1 x2)
noncomputable def F_marksPlan (M : gM) (a1 : Int) : Option (gM) := (Option.bind (F_clears M 736) (fun m4 =>
    F_marksPlan_9 m4 a1 0))
theorem eq_marksPlan (M : gM) (a1 : Int) : F_marksPlan M a1 = (Option.bind (F_clears M 736) (fun m4 =>
    F_marksPlan_9 m4 a1 0)) := rfl
theorem frp_marksPlan : ∀ (s : Nat × List Int × gM) (b : gM), gWh (st_marksPlan) s = some b → (∀ (x1 x2 : Int) (M : gM), s = (0, [x1, x2], M) → gFr [736] [] M b) := by
  refine gWh_ind (fun k hk s b h => ?_)
  · rintro x1 x2 M rfl
    rw [sk_marksPlan_9] at h
    rcases gI_or h with h | h
    · obtain ⟨r24, e24, h⟩ := gI_bd h
      obtain ⟨g2, h⟩ := gI_gd h
      rcases gI_or h with h | h
      · exact gFr_t (gFr_r [736] [] _) ((hk _ _ h) _ _ _ rfl) (fun _ z => z) (fun _ z => z)
      · obtain ⟨g3, h⟩ := gI_gd h
        exact gFr_t (gFr_a (gFr_r [736] [] _) (.head _) (by decide)) ((hk _ _ h) _ _ _ rfl) (fun _ z => z) (fun _ z => z)
    · obtain ⟨m56, e56, h⟩ := gI_bd h
      rw [← Option.some.inj h]
      exact (gFr_t (gFr_r [736] [] _) (fr_walksFore (b := m56) e56) (by first | decide | simp) (by decide))
theorem fr_marksPlan_9 {M : gM} {x1 x2 : Int} {b : gM} (h : F_marksPlan_9 M x1 x2 = some b) : gFr [736] [] M b :=
  (frp_marksPlan _ _ h) _ _ _ rfl
theorem fr_marksPlan {M : gM} {a1 : Int} {b : gM} (h : F_marksPlan M a1 = some b) : gFr [736] [] M b := by
  rw [eq_marksPlan] at h
  obtain ⟨m4, e4, h⟩ := gI_bd h
  exact gFr_t (gFr_t (gFr_r [736] [] _) (fr_clears (b := m4) e4) (by first | decide | simp) (by decide)) (fr_marksPlan_9 h) (fun _ z => z) (fun _ z => z)
theorem okp_marksPlan {sh : gS} : ∀ (s : Nat × List Int × gM) (b : gM), gWh (st_marksPlan) s = some b → (∀ (x1 x2 : Int) (M : gM), s = (0, [x1, x2], M) → gOK sh M → gA (gr 5 115) yX12_marksPlan cX12_marksPlan 4 none (gPq sh none b) (0, 0) 9 [(4, 711), (0, x1), (0, x2), (9, 0)] [] sh M) := by
  refine gWh_ind (fun k hk s b h => ?_)
  · rintro x1 x2 M rfl hOK
    rw [sk_marksPlan_9] at h
    refine g_iload_n (q0 := 10) (j := 2) rfl dX12_marksPlan_9 rfl ?_
    refine g_bipush (q0 := 12) rfl dX12_marksPlan_10 (k := ?_)
    refine g_icmp_ge (q0 := 15) (tgt := 50) rfl dX12_marksPlan_12 (by decide) (fun h12 => ?_) (fun h12 => ?_)
    · replace h := gI_neg (Int.not_lt.mpr h12) h
      refine g_aload_n (q0 := 51) (j := 0) rfl dX12_marksPlan_50 rfl ?_
      refine g_iload_n (q0 := 52) (j := 1) rfl dX12_marksPlan_51 rfl ?_
      refine g_aload_n (q0 := 53) (j := 0) rfl dX12_marksPlan_52 rfl ?_
      refine g_getp (q0 := 56) (b := 736) rfl ff_X12_84 dX12_marksPlan_53 rfl hOK (by decide) (sh_711 hOK) rfl (by decide) ?_
      obtain ⟨m56, e56, h⟩ := gI_bd h
      refine g_callVq0 (as := [_, _]) (rest := []) mt_X12_walksFore mi_X12_walksFore se_X12_walksFore ml_X12_479 dX12_marksPlan_56 (q0 := 59) rfl rfl (sh_711 hOK) rfl rfl (ok_walksFore hOK e56) rfl ⟨by decide, by decide⟩ (Nat.le_of_ble_eq_true rfl) ⟨Nat.zero_le _, Nat.zero_le _⟩ ?_
      have hOK1 : gOK sh m56 := gOK_fr hOK (fr_walksFore (b := m56) e56) (by first | decide | (intro a ha; simp only [List.mem_cons, List.not_mem_nil, or_false] at ha; omega)) (by decide)
      rw [← Option.some.inj h]
      refine g_return dX12_marksPlan_59 rfl ⟨Nat.zero_le _, Nat.zero_le _⟩ ?_
      exact ⟨rfl, rfl, rfl⟩
    · replace h := gI_pos h12 h
      refine g_aload_n (q0 := 16) (j := 0) rfl dX12_marksPlan_15 rfl ?_
      refine g_getp (q0 := 19) (b := 727) rfl ff_X12_57 dX12_marksPlan_16 rfl hOK (by decide) (sh_711 hOK) rfl (by decide) ?_
      refine g_bipush (q0 := 21) rfl dX12_marksPlan_19 (k := ?_)
      refine g_aload_n (q0 := 22) (j := 0) rfl dX12_marksPlan_21 rfl ?_
      refine g_iload_n (q0 := 23) (j := 1) rfl dX12_marksPlan_22 rfl ?_
      refine g_iconst (q0 := 24) rfl dX12_marksPlan_23 (k := ?_)
      obtain ⟨r24, e24, h⟩ := gI_bd h
      refine g_callVq1 (as := [_, _]) (rest := [_, _]) mt_X12_ofPlan mi_X12_ofPlan se_X12_ofPlan ml_X12_452 dX12_marksPlan_24 (q0 := 27) rfl rfl (sh_711 hOK) rfl rfl (ok_ofPlan hOK e24) rfl ⟨by decide, by decide⟩ (Nat.le_of_ble_eq_true rfl) ⟨Nat.zero_le _, Nat.zero_le _⟩ ?_
      refine g_imulw (q0 := 28) rfl dX12_marksPlan_27 ?_
      refine g_iload_n (q0 := 29) (j := 2) rfl dX12_marksPlan_28 rfl ?_
      refine g_iaddw (q0 := 30) rfl dX12_marksPlan_29 ?_
      obtain ⟨g2, h⟩ := gI_gd h
      refine g_iald (q0 := 31) rfl dX12_marksPlan_30 (sh_727 hOK) g2.1 g2.2 ?_
      refine g_istore_n (q0 := 32) (j := 3) (lv2 := [_, _, _, _]) rfl dX12_marksPlan_31 (by decide) rfl rfl ?_
      refine g_iload_n (q0 := 33) (j := 3) rfl dX12_marksPlan_32 rfl ?_
      refine g_iconst (q0 := 34) rfl dX12_marksPlan_33 (k := ?_)
      refine g_icmp_eq (q0 := 37) (tgt := 44) rfl dX12_marksPlan_34 (by decide) (fun h34 => ?_) (fun h34 => ?_)
      · replace h := gI_pos h34 h
        refine g_iincw (q0 := 47) (lv2 := [_, _, _, _]) rfl dX12_marksPlan_44 rfl (by decide) rfl rfl ?_
        refine g_goto (tgt := 9) dX12_marksPlan_47 (by decide) ?_
        refine gA_jk (lv1 := [_, _, _, (9, 0)]) ⟨.inl rfl, .inl rfl, .inl rfl, .inr rfl, trivial⟩ ?_
        exact (hk _ _ h) _ _ _ rfl hOK
      · replace h := gI_neg h34 h
        refine g_aload_n (q0 := 38) (j := 0) rfl dX12_marksPlan_37 rfl ?_
        refine g_getp (q0 := 41) (b := 736) rfl ff_X12_84 dX12_marksPlan_38 rfl hOK (by decide) (sh_711 hOK) rfl (by decide) ?_
        refine g_iload_n (q0 := 42) (j := 3) rfl dX12_marksPlan_41 rfl ?_
        refine g_iconst (q0 := 43) rfl dX12_marksPlan_42 (k := ?_)
        obtain ⟨g3, h⟩ := gI_gd h
        refine g_zast (q0 := 44) rfl dX12_marksPlan_43 (sh_736 hOK) g3.1 g3.2 (Or.inr rfl) ?_
        have hOK4 : gOK sh (gU M 736 (M 727 (gw32 ((gw32 ((52 : Int) * r24)) + x2))) 1) := gOK_z hOK (sh_736 hOK)
        refine g_iincw (q0 := 47) (lv2 := [_, _, _, _]) rfl dX12_marksPlan_44 rfl (by decide) rfl rfl ?_
        refine g_goto (tgt := 9) dX12_marksPlan_47 (by decide) ?_
        refine gA_jk (lv1 := [_, _, _, (9, 0)]) ⟨.inl rfl, .inl rfl, .inl rfl, .inr rfl, trivial⟩ ?_
        exact (hk _ _ h) _ _ _ rfl hOK4
theorem ok_marksPlan_9 {sh : gS} {M : gM} {x1 x2 : Int} {b : gM} (hOK : gOK sh M) (h : F_marksPlan_9 M x1 x2 = some b) : gA (gr 5 115) yX12_marksPlan cX12_marksPlan 4 none (gPq sh none b) (0, 0) 9 [(4, 711), (0, x1), (0, x2), (9, 0)] [] sh M :=
  (okp_marksPlan _ _ h) _ _ _ rfl hOK
theorem ok_marksPlan {sh : gS} {M : gM} {a1 : Int} {b : gM} (hOK : gOK sh M) (h : F_marksPlan M a1 = some b) : gC (gr 5 115) yX12_marksPlan cX12_marksPlan 4 none [(4, 711), (0, a1)] sh M (gPq sh none b) := by
  rw [eq_marksPlan] at h
  refine gC_ofA (lv := [_, _, _, _]) (by decide +kernel) (Nat.le_of_ble_eq_true rfl) rfl (fun hMw hav => ?_)
  refine g_aload_n (q0 := 1) (j := 0) rfl dX12_marksPlan_0 rfl ?_
  refine g_getp (q0 := 4) (b := 736) rfl ff_X12_84 dX12_marksPlan_1 rfl hOK (by decide) (sh_711 hOK) rfl (by decide) ?_
  obtain ⟨m4, e4, h⟩ := gI_bd h
  refine g_callSq0 (as := [_]) (rest := []) mt_X12_clears ms_X12_clears ml_X12_206 dX12_marksPlan_4 (q0 := 7) rfl rfl (ok_clears hOK e4) rfl ⟨by decide, by decide⟩ (Nat.le_of_ble_eq_true rfl) ⟨Nat.zero_le _, Nat.zero_le _⟩ ?_
  have hOK5 : gOK sh m4 := gOK_fr hOK (fr_clears (b := m4) e4) (by first | decide | (intro a ha; simp only [List.mem_cons, List.not_mem_nil, or_false] at ha; omega)) (by decide)
  refine g_iconst (q0 := 8) rfl dX12_marksPlan_7 (k := ?_)
  refine g_istore_n (q0 := 9) (j := 2) (lv2 := [_, _, _, _]) rfl dX12_marksPlan_8 (by decide) rfl rfl ?_
  exact ok_marksPlan_9 hOK5 h
-- ==== isLaid
theorem dX12_isLaid_0 : decode cX12_isLaid 0 = .ok (.iload_n 3, 1) := by decide +kernel
theorem dX12_isLaid_1 : decode cX12_isLaid 1 = .ok (.iconst (-1), 1) := by decide +kernel
theorem dX12_isLaid_2 : decode cX12_isLaid 2 = .ok (.if_icmp .eq 13, 3) := by decide +kernel
theorem dX12_isLaid_5 : decode cX12_isLaid 5 = .ok (.aload_n 0, 1) := by decide +kernel
theorem dX12_isLaid_6 : decode cX12_isLaid 6 = .ok (.iload_n 1, 1) := by decide +kernel
theorem dX12_isLaid_7 : decode cX12_isLaid 7 = .ok (.iload_n 3, 1) := by decide +kernel
theorem dX12_isLaid_8 : decode cX12_isLaid 8 = .ok (.invokevirtual 513, 3) := by decide +kernel
theorem dX12_isLaid_11 : decode cX12_isLaid 11 = .ok (.iconst (-1), 1) := by decide +kernel
theorem dX12_isLaid_12 : decode cX12_isLaid 12 = .ok (.if_icmp .ne 5, 3) := by decide +kernel
theorem dX12_isLaid_15 : decode cX12_isLaid 15 = .ok (.iconst 0, 1) := by decide +kernel
theorem dX12_isLaid_16 : decode cX12_isLaid 16 = .ok (.ireturn, 1) := by decide +kernel
theorem dX12_isLaid_17 : decode cX12_isLaid 17 = .ok (.aload_n 0, 1) := by decide +kernel
theorem dX12_isLaid_18 : decode cX12_isLaid 18 = .ok (.iload_n 1, 1) := by decide +kernel
theorem dX12_isLaid_19 : decode cX12_isLaid 19 = .ok (.bipush 13, 2) := by decide +kernel
theorem dX12_isLaid_21 : decode cX12_isLaid 21 = .ok (.invokevirtual 452, 3) := by decide +kernel
theorem dX12_isLaid_24 : decode cX12_isLaid 24 = .ok (.istore 4, 2) := by decide +kernel
theorem dX12_isLaid_26 : decode cX12_isLaid 26 = .ok (.iload_n 2, 1) := by decide +kernel
theorem dX12_isLaid_27 : decode cX12_isLaid 27 = .ok (.bipush 26, 2) := by decide +kernel
theorem dX12_isLaid_29 : decode cX12_isLaid 29 = .ok (.if_icmp .lt 29, 3) := by decide +kernel
theorem dX12_isLaid_32 : decode cX12_isLaid 32 = .ok (.iload 4, 2) := by decide +kernel
theorem dX12_isLaid_34 : decode cX12_isLaid 34 = .ok (.iconst 2, 1) := by decide +kernel
theorem dX12_isLaid_35 : decode cX12_isLaid 35 = .ok (.if_icmp .eq 23, 3) := by decide +kernel
theorem dX12_isLaid_38 : decode cX12_isLaid 38 = .ok (.iload 4, 2) := by decide +kernel
theorem dX12_isLaid_40 : decode cX12_isLaid 40 = .ok (.iconst 1, 1) := by decide +kernel
theorem dX12_isLaid_41 : decode cX12_isLaid 41 = .ok (.if_icmp .ne 21, 3) := by decide +kernel
theorem dX12_isLaid_44 : decode cX12_isLaid 44 = .ok (.aload_n 0, 1) := by decide +kernel
theorem dX12_isLaid_45 : decode cX12_isLaid 45 = .ok (.getfield 66, 3) := by decide +kernel
theorem dX12_isLaid_48 : decode cX12_isLaid 48 = .ok (.bipush 120, 2) := by decide +kernel
theorem dX12_isLaid_50 : decode cX12_isLaid 50 = .ok (.iload_n 1, 1) := by decide +kernel
theorem dX12_isLaid_51 : decode cX12_isLaid 51 = .ok (.imul, 1) := by decide +kernel
theorem dX12_isLaid_52 : decode cX12_isLaid 52 = .ok (.iload_n 3, 1) := by decide +kernel
theorem dX12_isLaid_53 : decode cX12_isLaid 53 = .ok (.iadd, 1) := by decide +kernel
theorem dX12_isLaid_54 : decode cX12_isLaid 54 = .ok (.iaload, 1) := by decide +kernel
theorem dX12_isLaid_55 : decode cX12_isLaid 55 = .ok (.ifCond .ne 7, 3) := by decide +kernel
theorem dX12_isLaid_58 : decode cX12_isLaid 58 = .ok (.iconst 1, 1) := by decide +kernel
theorem dX12_isLaid_59 : decode cX12_isLaid 59 = .ok (.goto 4, 3) := by decide +kernel
theorem dX12_isLaid_62 : decode cX12_isLaid 62 = .ok (.iconst 0, 1) := by decide +kernel
theorem dX12_isLaid_63 : decode cX12_isLaid 63 = .ok (.ireturn, 1) := by decide +kernel
noncomputable def F_isLaid (M : gM) (a1 a2 a3 : Int) : Option (Int) := (if a3 = -1 then
    some 0
  else
    (Option.bind (F_imageAt M a1 a3) (fun r8 =>
      (if r8 = -1 then
        some 0
      else
        (Option.bind (F_ofPlan M a1 13) (fun r21 =>
          (if a2 < 26 then
            some 1
          else
            (if r21 = 2 then
              some 1
            else
              (if r21 = 1 then
                (if 0 ≤ (gw32 ((gw32 ((120 : Int) * a1)) + a3)) ∧ (gw32 ((gw32 ((120 : Int) * a1)) + a3)) < 480 then
                  (if (M 730 (gw32 ((gw32 ((120 : Int) * a1)) + a3))) = 0 then
                    some 1
                  else
                    some 0)
                else none)
              else
                some 0)))))))))
theorem eq_isLaid (M : gM) (a1 a2 a3 : Int) : F_isLaid M a1 a2 a3 = (if a3 = -1 then
    some 0
  else
    (Option.bind (F_imageAt M a1 a3) (fun r8 =>
      (if r8 = -1 then
        some 0
      else
        (Option.bind (F_ofPlan M a1 13) (fun r21 =>
          (if a2 < 26 then
            some 1
          else
            (if r21 = 2 then
              some 1
            else
              (if r21 = 1 then
                (if 0 ≤ (gw32 ((gw32 ((120 : Int) * a1)) + a3)) ∧ (gw32 ((gw32 ((120 : Int) * a1)) + a3)) < 480 then
                  (if (M 730 (gw32 ((gw32 ((120 : Int) * a1)) + a3))) = 0 then
                    some 1
                  else
                    some 0)
                else none)
              else
                some 0))))))))) := rfl
theorem bo_isLaid {M : gM} {a1 a2 a3 : Int} {b : Int} (h : F_isLaid M a1 a2 a3 = some b) : b = 0 ∨ b = 1 := by
  rw [eq_isLaid] at h
  rcases gI_or h with h | h
  · rw [← Option.some.inj h]
    exact (Or.inl rfl)
  · obtain ⟨r8, e8, h⟩ := gI_bd h
    rcases gI_or h with h | h
    · rw [← Option.some.inj h]
      exact (Or.inl rfl)
    · obtain ⟨r21, e21, h⟩ := gI_bd h
      rcases gI_or h with h | h
      · rw [← Option.some.inj h]
        exact (Or.inr rfl)
      · rcases gI_or h with h | h
        · rw [← Option.some.inj h]
          exact (Or.inr rfl)
        · rcases gI_or h with h | h
          · obtain ⟨g1, h⟩ := gI_gd h
            rcases gI_or h with h | h
            · rw [← Option.some.inj h]
              exact (Or.inr rfl)
            · rw [← Option.some.inj h]
              exact (Or.inl rfl)
          · rw [← Option.some.inj h]
            exact (Or.inl rfl)
theorem ok_isLaid {sh : gS} {M : gM} {a1 a2 a3 : Int} {b : Int} (hOK : gOK sh M) (h : F_isLaid M a1 a2 a3 = some b) : gC (gr 1 22) yX12_isLaid cX12_isLaid 5 (some (.boolean)) [(4, 711), (0, a1), (0, a2), (0, a3)] sh M (gPq sh (some (0, b)) M) := by
  rw [eq_isLaid] at h
  refine gC_ofA (lv := [_, _, _, _, _]) (by decide +kernel) (Nat.le_of_ble_eq_true rfl) rfl (fun hMw hav => ?_)
  refine g_iload_n (q0 := 1) (j := 3) rfl dX12_isLaid_0 rfl ?_
  refine g_iconst (q0 := 2) rfl dX12_isLaid_1 (k := ?_)
  refine g_icmp_eq (q0 := 5) (tgt := 15) rfl dX12_isLaid_2 (by decide) (fun h2 => ?_) (fun h2 => ?_)
  · replace h := gI_pos h2 h
    refine g_iconst (q0 := 16) rfl dX12_isLaid_15 (k := ?_)
    rw [← Option.some.inj h]
    refine g_zreturn dX12_isLaid_16 rfl (gnz (Or.inl rfl)) ⟨Nat.zero_le _, Nat.zero_le _⟩ ?_
    exact ⟨rfl, rfl, rfl⟩
  · replace h := gI_neg h2 h
    refine g_aload_n (q0 := 6) (j := 0) rfl dX12_isLaid_5 rfl ?_
    refine g_iload_n (q0 := 7) (j := 1) rfl dX12_isLaid_6 rfl ?_
    refine g_iload_n (q0 := 8) (j := 3) rfl dX12_isLaid_7 rfl ?_
    obtain ⟨r8, e8, h⟩ := gI_bd h
    refine g_callVq1 (as := [_, _]) (rest := []) mt_X12_imageAt mi_X12_imageAt se_X12_imageAt ml_X12_513 dX12_isLaid_8 (q0 := 11) rfl rfl (sh_711 hOK) rfl rfl (ok_imageAt hOK e8) rfl ⟨by decide, by decide⟩ (Nat.le_of_ble_eq_true rfl) ⟨Nat.zero_le _, Nat.zero_le _⟩ ?_
    refine g_iconst (q0 := 12) rfl dX12_isLaid_11 (k := ?_)
    refine g_icmp_ne (q0 := 15) (tgt := 17) rfl dX12_isLaid_12 (by decide) (fun h12 => ?_) (fun h12 => ?_)
    · replace h := gI_neg h12 h
      refine g_aload_n (q0 := 18) (j := 0) rfl dX12_isLaid_17 rfl ?_
      refine g_iload_n (q0 := 19) (j := 1) rfl dX12_isLaid_18 rfl ?_
      refine g_bipush (q0 := 21) rfl dX12_isLaid_19 (k := ?_)
      obtain ⟨r21, e21, h⟩ := gI_bd h
      refine g_callVq1 (as := [_, _]) (rest := []) mt_X12_ofPlan mi_X12_ofPlan se_X12_ofPlan ml_X12_452 dX12_isLaid_21 (q0 := 24) rfl rfl (sh_711 hOK) rfl rfl (ok_ofPlan hOK e21) rfl ⟨by decide, by decide⟩ (Nat.le_of_ble_eq_true rfl) ⟨Nat.zero_le _, Nat.zero_le _⟩ ?_
      refine g_istore (q0 := 26) (j := 4) (lv2 := [_, _, _, _, _]) rfl dX12_isLaid_24 (by decide) rfl rfl ?_
      refine g_iload_n (q0 := 27) (j := 2) rfl dX12_isLaid_26 rfl ?_
      refine g_bipush (q0 := 29) rfl dX12_isLaid_27 (k := ?_)
      refine g_icmp_lt (q0 := 32) (tgt := 58) rfl dX12_isLaid_29 (by decide) (fun h29 => ?_) (fun h29 => ?_)
      · replace h := gI_pos h29 h
        refine g_iconst (q0 := 59) rfl dX12_isLaid_58 (k := ?_)
        refine g_goto (tgt := 63) dX12_isLaid_59 (by decide) ?_
        rw [← Option.some.inj h]
        refine g_zreturn dX12_isLaid_63 rfl (gnz (Or.inr rfl)) ⟨Nat.zero_le _, Nat.zero_le _⟩ ?_
        exact ⟨rfl, rfl, rfl⟩
      · replace h := gI_neg (Int.not_lt.mpr h29) h
        refine g_iload (q0 := 34) (j := 4) rfl dX12_isLaid_32 rfl ?_
        refine g_iconst (q0 := 35) rfl dX12_isLaid_34 (k := ?_)
        refine g_icmp_eq (q0 := 38) (tgt := 58) rfl dX12_isLaid_35 (by decide) (fun h35 => ?_) (fun h35 => ?_)
        · replace h := gI_pos h35 h
          refine g_iconst (q0 := 59) rfl dX12_isLaid_58 (k := ?_)
          refine g_goto (tgt := 63) dX12_isLaid_59 (by decide) ?_
          rw [← Option.some.inj h]
          refine g_zreturn dX12_isLaid_63 rfl (gnz (Or.inr rfl)) ⟨Nat.zero_le _, Nat.zero_le _⟩ ?_
          exact ⟨rfl, rfl, rfl⟩
        · replace h := gI_neg h35 h
          refine g_iload (q0 := 40) (j := 4) rfl dX12_isLaid_38 rfl ?_
          refine g_iconst (q0 := 41) rfl dX12_isLaid_40 (k := ?_)
          refine g_icmp_ne (q0 := 44) (tgt := 62) rfl dX12_isLaid_41 (by decide) (fun h41 => ?_) (fun h41 => ?_)
          · replace h := gI_neg h41 h
            refine g_iconst (q0 := 63) rfl dX12_isLaid_62 (k := ?_)
            rw [← Option.some.inj h]
            refine g_zreturn dX12_isLaid_63 rfl (gnz (Or.inl rfl)) ⟨Nat.zero_le _, Nat.zero_le _⟩ ?_
            exact ⟨rfl, rfl, rfl⟩
          · replace h := gI_pos h41 h
            refine g_aload_n (q0 := 45) (j := 0) rfl dX12_isLaid_44 rfl ?_
            refine g_getp (q0 := 48) (b := 730) rfl ff_X12_66 dX12_isLaid_45 rfl hOK (by decide) (sh_711 hOK) rfl (by decide) ?_
            refine g_bipush (q0 := 50) rfl dX12_isLaid_48 (k := ?_)
            refine g_iload_n (q0 := 51) (j := 1) rfl dX12_isLaid_50 rfl ?_
            refine g_imulw (q0 := 52) rfl dX12_isLaid_51 ?_
            refine g_iload_n (q0 := 53) (j := 3) rfl dX12_isLaid_52 rfl ?_
            refine g_iaddw (q0 := 54) rfl dX12_isLaid_53 ?_
            obtain ⟨g1, h⟩ := gI_gd h
            refine g_iald (q0 := 55) rfl dX12_isLaid_54 (sh_730 hOK) g1.1 g1.2 ?_
            refine g_if_ne (q0 := 58) (tgt := 62) rfl dX12_isLaid_55 (by decide) (fun h55 => ?_) (fun h55 => ?_)
            · replace h := gI_neg h55 h
              refine g_iconst (q0 := 63) rfl dX12_isLaid_62 (k := ?_)
              rw [← Option.some.inj h]
              refine g_zreturn dX12_isLaid_63 rfl (gnz (Or.inl rfl)) ⟨Nat.zero_le _, Nat.zero_le _⟩ ?_
              exact ⟨rfl, rfl, rfl⟩
            · replace h := gI_pos h55 h
              refine g_iconst (q0 := 59) rfl dX12_isLaid_58 (k := ?_)
              refine g_goto (tgt := 63) dX12_isLaid_59 (by decide) ?_
              rw [← Option.some.inj h]
              refine g_zreturn dX12_isLaid_63 rfl (gnz (Or.inr rfl)) ⟨Nat.zero_le _, Nat.zero_le _⟩ ?_
              exact ⟨rfl, rfl, rfl⟩
    · replace h := gI_pos h12 h
      refine g_iconst (q0 := 16) rfl dX12_isLaid_15 (k := ?_)
      rw [← Option.some.inj h]
      refine g_zreturn dX12_isLaid_16 rfl (gnz (Or.inl rfl)) ⟨Nat.zero_le _, Nat.zero_le _⟩ ?_
      exact ⟨rfl, rfl, rfl⟩
-- ==== laysRefs
theorem dX12_laysRefs_0 : decode cX12_laysRefs 0 = .ok (.iconst 0, 1) := by decide +kernel
theorem dX12_laysRefs_1 : decode cX12_laysRefs 1 = .ok (.istore_n 2, 1) := by decide +kernel
theorem dX12_laysRefs_2 : decode cX12_laysRefs 2 = .ok (.iconst 0, 1) := by decide +kernel
theorem dX12_laysRefs_3 : decode cX12_laysRefs 3 = .ok (.istore_n 3, 1) := by decide +kernel
theorem dX12_laysRefs_4 : decode cX12_laysRefs 4 = .ok (.iload_n 3, 1) := by decide +kernel
theorem dX12_laysRefs_5 : decode cX12_laysRefs 5 = .ok (.bipush 52, 2) := by decide +kernel
theorem dX12_laysRefs_7 : decode cX12_laysRefs 7 = .ok (.if_icmp .ge 147, 3) := by decide +kernel
theorem dX12_laysRefs_10 : decode cX12_laysRefs 10 = .ok (.bipush 52, 2) := by decide +kernel
theorem dX12_laysRefs_12 : decode cX12_laysRefs 12 = .ok (.aload_n 0, 1) := by decide +kernel
theorem dX12_laysRefs_13 : decode cX12_laysRefs 13 = .ok (.iload_n 1, 1) := by decide +kernel
theorem dX12_laysRefs_14 : decode cX12_laysRefs 14 = .ok (.iconst 2, 1) := by decide +kernel
theorem dX12_laysRefs_15 : decode cX12_laysRefs 15 = .ok (.invokevirtual 452, 3) := by decide +kernel
theorem dX12_laysRefs_18 : decode cX12_laysRefs 18 = .ok (.imul, 1) := by decide +kernel
theorem dX12_laysRefs_19 : decode cX12_laysRefs 19 = .ok (.iload_n 3, 1) := by decide +kernel
theorem dX12_laysRefs_20 : decode cX12_laysRefs 20 = .ok (.iadd, 1) := by decide +kernel
theorem dX12_laysRefs_21 : decode cX12_laysRefs 21 = .ok (.istore 4, 2) := by decide +kernel
theorem dX12_laysRefs_23 : decode cX12_laysRefs 23 = .ok (.aload_n 0, 1) := by decide +kernel
theorem dX12_laysRefs_24 : decode cX12_laysRefs 24 = .ok (.getfield 60, 3) := by decide +kernel
theorem dX12_laysRefs_27 : decode cX12_laysRefs 27 = .ok (.iload 4, 2) := by decide +kernel
theorem dX12_laysRefs_29 : decode cX12_laysRefs 29 = .ok (.iaload, 1) := by decide +kernel
theorem dX12_laysRefs_30 : decode cX12_laysRefs 30 = .ok (.iload_n 1, 1) := by decide +kernel
theorem dX12_laysRefs_31 : decode cX12_laysRefs 31 = .ok (.if_icmp .ne 7, 3) := by decide +kernel
theorem dX12_laysRefs_34 : decode cX12_laysRefs 34 = .ok (.iconst 1, 1) := by decide +kernel
theorem dX12_laysRefs_35 : decode cX12_laysRefs 35 = .ok (.goto 4, 3) := by decide +kernel
theorem dX12_laysRefs_38 : decode cX12_laysRefs 38 = .ok (.iconst 0, 1) := by decide +kernel
theorem dX12_laysRefs_39 : decode cX12_laysRefs 39 = .ok (.istore 5, 2) := by decide +kernel
theorem dX12_laysRefs_41 : decode cX12_laysRefs 41 = .ok (.aload_n 0, 1) := by decide +kernel
theorem dX12_laysRefs_42 : decode cX12_laysRefs 42 = .ok (.getfield 87, 3) := by decide +kernel
theorem dX12_laysRefs_45 : decode cX12_laysRefs 45 = .ok (.iload_n 3, 1) := by decide +kernel
theorem dX12_laysRefs_46 : decode cX12_laysRefs 46 = .ok (.iload 5, 2) := by decide +kernel
theorem dX12_laysRefs_48 : decode cX12_laysRefs 48 = .ok (.ifCond .eq 7, 3) := by decide +kernel
theorem dX12_laysRefs_51 : decode cX12_laysRefs 51 = .ok (.iconst (-1), 1) := by decide +kernel
theorem dX12_laysRefs_52 : decode cX12_laysRefs 52 = .ok (.goto 10, 3) := by decide +kernel
theorem dX12_laysRefs_55 : decode cX12_laysRefs 55 = .ok (.aload_n 0, 1) := by decide +kernel
theorem dX12_laysRefs_56 : decode cX12_laysRefs 56 = .ok (.getfield 57, 3) := by decide +kernel
theorem dX12_laysRefs_59 : decode cX12_laysRefs 59 = .ok (.iload 4, 2) := by decide +kernel
theorem dX12_laysRefs_61 : decode cX12_laysRefs 61 = .ok (.iaload, 1) := by decide +kernel
theorem dX12_laysRefs_62 : decode cX12_laysRefs 62 = .ok (.iastore, 1) := by decide +kernel
theorem dX12_laysRefs_63 : decode cX12_laysRefs 63 = .ok (.aload_n 0, 1) := by decide +kernel
theorem dX12_laysRefs_64 : decode cX12_laysRefs 64 = .ok (.getfield 90, 3) := by decide +kernel
theorem dX12_laysRefs_67 : decode cX12_laysRefs 67 = .ok (.iload_n 3, 1) := by decide +kernel
theorem dX12_laysRefs_68 : decode cX12_laysRefs 68 = .ok (.iload 5, 2) := by decide +kernel
theorem dX12_laysRefs_70 : decode cX12_laysRefs 70 = .ok (.ifCond .eq 7, 3) := by decide +kernel
theorem dX12_laysRefs_73 : decode cX12_laysRefs 73 = .ok (.iconst (-1), 1) := by decide +kernel
theorem dX12_laysRefs_74 : decode cX12_laysRefs 74 = .ok (.goto 10, 3) := by decide +kernel
theorem dX12_laysRefs_77 : decode cX12_laysRefs 77 = .ok (.aload_n 0, 1) := by decide +kernel
theorem dX12_laysRefs_78 : decode cX12_laysRefs 78 = .ok (.getfield 60, 3) := by decide +kernel
theorem dX12_laysRefs_81 : decode cX12_laysRefs 81 = .ok (.iload 4, 2) := by decide +kernel
theorem dX12_laysRefs_83 : decode cX12_laysRefs 83 = .ok (.iaload, 1) := by decide +kernel
theorem dX12_laysRefs_84 : decode cX12_laysRefs 84 = .ok (.iastore, 1) := by decide +kernel
theorem dX12_laysRefs_85 : decode cX12_laysRefs 85 = .ok (.aload_n 0, 1) := by decide +kernel
theorem dX12_laysRefs_86 : decode cX12_laysRefs 86 = .ok (.getfield 57, 3) := by decide +kernel
theorem dX12_laysRefs_89 : decode cX12_laysRefs 89 = .ok (.bipush 52, 2) := by decide +kernel
theorem dX12_laysRefs_91 : decode cX12_laysRefs 91 = .ok (.aload_n 0, 1) := by decide +kernel
theorem dX12_laysRefs_92 : decode cX12_laysRefs 92 = .ok (.iload_n 1, 1) := by decide +kernel
theorem dX12_laysRefs_93 : decode cX12_laysRefs 93 = .ok (.iconst 1, 1) := by decide +kernel
theorem dX12_laysRefs_94 : decode cX12_laysRefs 94 = .ok (.invokevirtual 452, 3) := by decide +kernel
theorem dX12_laysRefs_97 : decode cX12_laysRefs 97 = .ok (.imul, 1) := by decide +kernel
theorem dX12_laysRefs_98 : decode cX12_laysRefs 98 = .ok (.iload_n 3, 1) := by decide +kernel
theorem dX12_laysRefs_99 : decode cX12_laysRefs 99 = .ok (.iadd, 1) := by decide +kernel
theorem dX12_laysRefs_100 : decode cX12_laysRefs 100 = .ok (.iaload, 1) := by decide +kernel
theorem dX12_laysRefs_101 : decode cX12_laysRefs 101 = .ok (.istore 6, 2) := by decide +kernel
theorem dX12_laysRefs_103 : decode cX12_laysRefs 103 = .ok (.aload_n 0, 1) := by decide +kernel
theorem dX12_laysRefs_104 : decode cX12_laysRefs 104 = .ok (.iload_n 1, 1) := by decide +kernel
theorem dX12_laysRefs_105 : decode cX12_laysRefs 105 = .ok (.iload_n 3, 1) := by decide +kernel
theorem dX12_laysRefs_106 : decode cX12_laysRefs 106 = .ok (.iload 6, 2) := by decide +kernel
theorem dX12_laysRefs_108 : decode cX12_laysRefs 108 = .ok (.invokevirtual 579, 3) := by decide +kernel
theorem dX12_laysRefs_111 : decode cX12_laysRefs 111 = .ok (.ifCond .eq 23, 3) := by decide +kernel
theorem dX12_laysRefs_114 : decode cX12_laysRefs 114 = .ok (.aload_n 0, 1) := by decide +kernel
theorem dX12_laysRefs_115 : decode cX12_laysRefs 115 = .ok (.getfield 87, 3) := by decide +kernel
theorem dX12_laysRefs_118 : decode cX12_laysRefs 118 = .ok (.iload_n 3, 1) := by decide +kernel
theorem dX12_laysRefs_119 : decode cX12_laysRefs 119 = .ok (.aload_n 0, 1) := by decide +kernel
theorem dX12_laysRefs_120 : decode cX12_laysRefs 120 = .ok (.iload_n 1, 1) := by decide +kernel
theorem dX12_laysRefs_121 : decode cX12_laysRefs 121 = .ok (.iload 6, 2) := by decide +kernel
theorem dX12_laysRefs_123 : decode cX12_laysRefs 123 = .ok (.invokevirtual 513, 3) := by decide +kernel
theorem dX12_laysRefs_126 : decode cX12_laysRefs 126 = .ok (.iastore, 1) := by decide +kernel
theorem dX12_laysRefs_127 : decode cX12_laysRefs 127 = .ok (.aload_n 0, 1) := by decide +kernel
theorem dX12_laysRefs_128 : decode cX12_laysRefs 128 = .ok (.getfield 90, 3) := by decide +kernel
theorem dX12_laysRefs_131 : decode cX12_laysRefs 131 = .ok (.iload_n 3, 1) := by decide +kernel
theorem dX12_laysRefs_132 : decode cX12_laysRefs 132 = .ok (.iload_n 1, 1) := by decide +kernel
theorem dX12_laysRefs_133 : decode cX12_laysRefs 133 = .ok (.iastore, 1) := by decide +kernel
theorem dX12_laysRefs_134 : decode cX12_laysRefs 134 = .ok (.aload_n 0, 1) := by decide +kernel
theorem dX12_laysRefs_135 : decode cX12_laysRefs 135 = .ok (.getfield 87, 3) := by decide +kernel
theorem dX12_laysRefs_138 : decode cX12_laysRefs 138 = .ok (.iload_n 3, 1) := by decide +kernel
theorem dX12_laysRefs_139 : decode cX12_laysRefs 139 = .ok (.iaload, 1) := by decide +kernel
theorem dX12_laysRefs_140 : decode cX12_laysRefs 140 = .ok (.iconst (-1), 1) := by decide +kernel
theorem dX12_laysRefs_141 : decode cX12_laysRefs 141 = .ok (.if_icmp .eq 7, 3) := by decide +kernel
theorem dX12_laysRefs_144 : decode cX12_laysRefs 144 = .ok (.iload_n 2, 1) := by decide +kernel
theorem dX12_laysRefs_145 : decode cX12_laysRefs 145 = .ok (.iconst 1, 1) := by decide +kernel
theorem dX12_laysRefs_146 : decode cX12_laysRefs 146 = .ok (.iadd, 1) := by decide +kernel
theorem dX12_laysRefs_147 : decode cX12_laysRefs 147 = .ok (.istore_n 2, 1) := by decide +kernel
theorem dX12_laysRefs_148 : decode cX12_laysRefs 148 = .ok (.iinc 3 1, 3) := by decide +kernel
theorem dX12_laysRefs_151 : decode cX12_laysRefs 151 = .ok (.goto (-147), 3) := by decide +kernel
theorem dX12_laysRefs_154 : decode cX12_laysRefs 154 = .ok (.iload_n 2, 1) := by decide +kernel
theorem dX12_laysRefs_155 : decode cX12_laysRefs 155 = .ok (.ireturn, 1) := by decide +kernel
noncomputable def st_laysRefs : Nat × List Int × gM → Option ((Nat × List Int × gM) ⊕ (Int × gM))
  | (0, [x1, x2, x3], M) => (if x3 < 52 then
      (Option.bind (F_ofPlan M x1 2) (fun r15 =>
        (if 0 ≤ (gw32 ((gw32 ((52 : Int) * r15)) + x3)) ∧ (gw32 ((gw32 ((52 : Int) * r15)) + x3)) < 208 then
          (if (M 728 (gw32 ((gw32 ((52 : Int) * r15)) + x3))) = x1 then
            some (.inl (1, [x1, x2, x3, (gw32 ((gw32 ((52 : Int) * r15)) + x3)), 1], M))
          else
            some (.inl (1, [x1, x2, x3, (gw32 ((gw32 ((52 : Int) * r15)) + x3)), 0], M)))
        else none)))
    else
      some (.inr (x2, M)))
  | (1, [x1, x2, x3, x4, s0], M) => (if s0 = 0 then
      (if 0 ≤ x4 ∧ x4 < 208 then
        (if 0 ≤ x3 ∧ x3 < 52 then
          (if s0 = 0 then
            some (.inl (2, [x1, x2, x3, x4, s0, x3, ((gU M 737 x3 (M 727 x4)) 728 x4)], (gU M 737 x3 (M 727 x4))))
          else
            some (.inl (2, [x1, x2, x3, x4, s0, x3, -1], (gU M 737 x3 (M 727 x4)))))
        else none)
      else none)
    else
      (if 0 ≤ x3 ∧ x3 < 52 then
        (if s0 = 0 then
          (if 0 ≤ x4 ∧ x4 < 208 then
            some (.inl (2, [x1, x2, x3, x4, s0, x3, ((gU M 737 x3 (-1)) 728 x4)], (gU M 737 x3 (-1))))
          else none)
        else
          some (.inl (2, [x1, x2, x3, x4, s0, x3, -1], (gU M 737 x3 (-1)))))
      else none))
  | (2, [x1, x2, x3, x4, x5, s1, s2], M) => (if 0 ≤ s1 ∧ s1 < 52 then
      (Option.bind (F_ofPlan (gU M 738 s1 s2) x1 1) (fun r94 =>
        (if 0 ≤ (gw32 ((gw32 ((52 : Int) * r94)) + x3)) ∧ (gw32 ((gw32 ((52 : Int) * r94)) + x3)) < 208 then
          (Option.bind (F_isLaid (gU M 738 s1 s2) x1 x3 ((gU M 738 s1 s2) 727 (gw32 ((gw32 ((52 : Int) * r94)) + x3)))) (fun r108 =>
            (if r108 = 0 then
              (if 0 ≤ x3 ∧ x3 < 52 then
                (if ((gU M 738 s1 s2) 737 x3) = -1 then
                  some (.inl (0, [x1, x2, (gw32 (x3 + 1))], (gU M 738 s1 s2)))
                else
                  some (.inl (0, [x1, (gw32 (x2 + (1 : Int))), (gw32 (x3 + 1))], (gU M 738 s1 s2))))
              else none)
            else
              (Option.bind (F_imageAt (gU M 738 s1 s2) x1 ((gU M 738 s1 s2) 727 (gw32 ((gw32 ((52 : Int) * r94)) + x3)))) (fun r123 =>
                (if 0 ≤ x3 ∧ x3 < 52 then
                  (if ((gU (gU (gU M 738 s1 s2) 737 x3 r123) 738 x3 x1) 737 x3) = -1 then
                    some (.inl (0, [x1, x2, (gw32 (x3 + 1))], (gU (gU (gU M 738 s1 s2) 737 x3 r123) 738 x3 x1)))
                  else
                    some (.inl (0, [x1, (gw32 (x2 + (1 : Int))), (gw32 (x3 + 1))], (gU (gU (gU M 738 s1 s2) 737 x3 r123) 738 x3 x1))))
                else none))))))
        else none)))
    else none)
  | _ => none
theorem sk_laysRefs_4 (k : Nat × List Int × gM → Option (Int × gM)) (M : gM) (x1 x2 x3 : Int) : gWk k (st_laysRefs (0, [x1, x2, x3], M)) = (if x3 < 52 then
    (Option.bind (F_ofPlan M x1 2) (fun r15 =>
      (if 0 ≤ (gw32 ((gw32 ((52 : Int) * r15)) + x3)) ∧ (gw32 ((gw32 ((52 : Int) * r15)) + x3)) < 208 then
        (if (M 728 (gw32 ((gw32 ((52 : Int) * r15)) + x3))) = x1 then
          k (1, [x1, x2, x3, (gw32 ((gw32 ((52 : Int) * r15)) + x3)), 1], M)
        else
          k (1, [x1, x2, x3, (gw32 ((gw32 ((52 : Int) * r15)) + x3)), 0], M))
      else none)))
  else
    some (x2, M)) := by
  simp only [st_laysRefs, gWk_ite, gWk_bind, gWk_inl, gWk_inr, gWk_none]
theorem sk_laysRefs_39 (k : Nat × List Int × gM → Option (Int × gM)) (M : gM) (x1 x2 x3 x4 s0 : Int) : gWk k (st_laysRefs (1, [x1, x2, x3, x4, s0], M)) = (if s0 = 0 then
    (if 0 ≤ x4 ∧ x4 < 208 then
      (if 0 ≤ x3 ∧ x3 < 52 then
        (if s0 = 0 then
          k (2, [x1, x2, x3, x4, s0, x3, ((gU M 737 x3 (M 727 x4)) 728 x4)], (gU M 737 x3 (M 727 x4)))
        else
          k (2, [x1, x2, x3, x4, s0, x3, -1], (gU M 737 x3 (M 727 x4))))
      else none)
    else none)
  else
    (if 0 ≤ x3 ∧ x3 < 52 then
      (if s0 = 0 then
        (if 0 ≤ x4 ∧ x4 < 208 then
          k (2, [x1, x2, x3, x4, s0, x3, ((gU M 737 x3 (-1)) 728 x4)], (gU M 737 x3 (-1)))
        else none)
      else
        k (2, [x1, x2, x3, x4, s0, x3, -1], (gU M 737 x3 (-1))))
    else none)) := by
  simp only [st_laysRefs, gWk_ite, gWk_bind, gWk_inl, gWk_inr, gWk_none]
theorem sk_laysRefs_84 (k : Nat × List Int × gM → Option (Int × gM)) (M : gM) (x1 x2 x3 x4 x5 s1 s2 : Int) : gWk k (st_laysRefs (2, [x1, x2, x3, x4, x5, s1, s2], M)) = (if 0 ≤ s1 ∧ s1 < 52 then
    (Option.bind (F_ofPlan (gU M 738 s1 s2) x1 1) (fun r94 =>
      (if 0 ≤ (gw32 ((gw32 ((52 : Int) * r94)) + x3)) ∧ (gw32 ((gw32 ((52 : Int) * r94)) + x3)) < 208 then
        (Option.bind (F_isLaid (gU M 738 s1 s2) x1 x3 ((gU M 738 s1 s2) 727 (gw32 ((gw32 ((52 : Int) * r94)) + x3)))) (fun r108 =>
          (if r108 = 0 then
            (if 0 ≤ x3 ∧ x3 < 52 then
              (if ((gU M 738 s1 s2) 737 x3) = -1 then
                k (0, [x1, x2, (gw32 (x3 + 1))], (gU M 738 s1 s2))
              else
                k (0, [x1, (gw32 (x2 + (1 : Int))), (gw32 (x3 + 1))], (gU M 738 s1 s2)))
            else none)
          else
            (Option.bind (F_imageAt (gU M 738 s1 s2) x1 ((gU M 738 s1 s2) 727 (gw32 ((gw32 ((52 : Int) * r94)) + x3)))) (fun r123 =>
              (if 0 ≤ x3 ∧ x3 < 52 then
                (if ((gU (gU (gU M 738 s1 s2) 737 x3 r123) 738 x3 x1) 737 x3) = -1 then
                  k (0, [x1, x2, (gw32 (x3 + 1))], (gU (gU (gU M 738 s1 s2) 737 x3 r123) 738 x3 x1))
                else
                  k (0, [x1, (gw32 (x2 + (1 : Int))), (gw32 (x3 + 1))], (gU (gU (gU M 738 s1 s2) 737 x3 r123) 738 x3 x1)))
              else none))))))
      else none)))
  else none) := by
  simp only [st_laysRefs, gWk_ite, gWk_bind, gWk_inl, gWk_inr, gWk_none]
noncomputable def F_laysRefs_4 (M : gM) (x1 x2 x3 : Int) : Option (Int × gM) := gWh (st_laysRefs) (0, [x1, x2, x3], M)
noncomputable def F_laysRefs_39 (M : gM) (x1 x2 x3 x4 s0 : Int) : Option (Int × gM) := gWh (st_laysRefs) (1, [x1, x2, x3, x4, s0], M)
noncomputable def F_laysRefs_84 (M : gM) (x1 x2 x3 x4 x5 s1 s2 : Int) : Option (Int × gM) := gWh (st_laysRefs) (2, [x1, x2, x3, x4, x5, s1, s2], M)
theorem eq_laysRefs_4 (M : gM) (x1 x2 x3 : Int) : F_laysRefs_4 M x1 x2 x3 = (if x3 < 52 then
    (Option.bind (F_ofPlan M x1 2) (fun r15 =>
      (if 0 ≤ (gw32 ((gw32 ((52 : Int) * r15)) + x3)) ∧ (gw32 ((gw32 ((52 : Int) * r15)) + x3)) < 208 then
        (if (M 728 (gw32 ((gw32 ((52 : Int) * r15)) + x3))) = x1 then
          F_laysRefs_39 M x1 x2 x3 (gw32 ((gw32 ((52 : Int) * r15)) + x3)) 1
        else
          F_laysRefs_39 M x1 x2 x3 (gw32 ((gw32 ((52 : Int) * r15)) + x3)) 0)
      else none)))
  else
    some (x2, M)) := (gWh_eq _).trans (sk_laysRefs_4 _ M x1 x2 x3)
theorem eq_laysRefs_39 (M : gM) (x1 x2 x3 x4 s0 : Int) : F_laysRefs_39 M x1 x2 x3 x4 s0 = (if s0 = 0 then
    (if 0 ≤ x4 ∧ x4 < 208 then
      (if 0 ≤ x3 ∧ x3 < 52 then
        (if s0 = 0 then
          F_laysRefs_84 (gU M 737 x3 (M 727 x4)) x1 x2 x3 x4 s0 x3 ((gU M 737 x3 (M 727 x4)) 728 x4)
        else
          F_laysRefs_84 (gU M 737 x3 (M 727 x4)) x1 x2 x3 x4 s0 x3 (-1))
      else none)
    else none)
  else
    (if 0 ≤ x3 ∧ x3 < 52 then
      (if s0 = 0 then
        (if 0 ≤ x4 ∧ x4 < 208 then
          F_laysRefs_84 (gU M 737 x3 (-1)) x1 x2 x3 x4 s0 x3 ((gU M 737 x3 (-1)) 728 x4)
        else none)
      else
        F_laysRefs_84 (gU M 737 x3 (-1)) x1 x2 x3 x4 s0 x3 (-1))
    else none)) := (gWh_eq _).trans (sk_laysRefs_39 _ M x1 x2 x3 x4 s0)
theorem eq_laysRefs_84 (M : gM) (x1 x2 x3 x4 x5 s1 s2 : Int) : F_laysRefs_84 M x1 x2 x3 x4 x5 s1 s2 = (if 0 ≤ s1 ∧ s1 < 52 then
    (Option.bind (F_ofPlan (gU M 738 s1 s2) x1 1) (fun r94 =>
      (if 0 ≤ (gw32 ((gw32 ((52 : Int) * r94)) + x3)) ∧ (gw32 ((gw32 ((52 : Int) * r94)) + x3)) < 208 then
        (Option.bind (F_isLaid (gU M 738 s1 s2) x1 x3 ((gU M 738 s1 s2) 727 (gw32 ((gw32 ((52 : Int) * r94)) + x3)))) (fun r108 =>
          (if r108 = 0 then
            (if 0 ≤ x3 ∧ x3 < 52 then
              (if ((gU M 738 s1 s2) 737 x3) = -1 then
                F_laysRefs_4 (gU M 738 s1 s2) x1 x2 (gw32 (x3 + 1))
              else
                F_laysRefs_4 (gU M 738 s1 s2) x1 (gw32 (x2 + (1 : Int))) (gw32 (x3 + 1)))
            else none)
          else
            (Option.bind (F_imageAt (gU M 738 s1 s2) x1 ((gU M 738 s1 s2) 727 (gw32 ((gw32 ((52 : Int) * r94)) + x3)))) (fun r123 =>
              (if 0 ≤ x3 ∧ x3 < 52 then
                (if ((gU (gU (gU M 738 s1 s2) 737 x3 r123) 738 x3 x1) 737 x3) = -1 then
                  F_laysRefs_4 (gU (gU (gU M 738 s1 s2) 737 x3 r123) 738 x3 x1) x1 x2 (gw32 (x3 + 1))
                else
                  F_laysRefs_4 (gU (gU (gU M 738 s1 s2) 737 x3 r123) 738 x3 x1) x1 (gw32 (x2 + (1 : Int))) (gw32 (x3 + 1)))
              else none))))))
      else none)))
  else none) := (gWh_eq _).trans (sk_laysRefs_84 _ M x1 x2 x3 x4 x5 s1 s2)
noncomputable def F_laysRefs (M : gM) (a1 : Int) : Option (Int × gM) := F_laysRefs_4 M a1 0 0
theorem eq_laysRefs (M : gM) (a1 : Int) : F_laysRefs M a1 = F_laysRefs_4 M a1 0 0 := rfl
theorem frp_laysRefs : ∀ (s : Nat × List Int × gM) (b : Int × gM), gWh (st_laysRefs) s = some b → (∀ (x1 x2 x3 : Int) (M : gM), s = (0, [x1, x2, x3], M) → gFr [737, 738] [] M b.2) ∧ (∀ (x1 x2 x3 x4 s0 : Int) (M : gM), s = (1, [x1, x2, x3, x4, s0], M) → gFr [737, 738] [] M b.2) ∧ (∀ (x1 x2 x3 x4 x5 s1 s2 : Int) (M : gM), s = (2, [x1, x2, x3, x4, x5, s1, s2], M) → gFr [737, 738] [] M b.2) := by
  refine gWh_ind (fun k hk s b h => ⟨?_, ?_, ?_⟩)
  · rintro x1 x2 x3 M rfl
    rw [sk_laysRefs_4] at h
    rcases gI_or h with h | h
    · obtain ⟨r15, e15, h⟩ := gI_bd h
      obtain ⟨g1, h⟩ := gI_gd h
      rcases gI_or h with h | h
      · exact gFr_t (gFr_r [737, 738] [] _) ((hk _ _ h).2.1 _ _ _ _ _ _ rfl) (fun _ z => z) (fun _ z => z)
      · exact gFr_t (gFr_r [737, 738] [] _) ((hk _ _ h).2.1 _ _ _ _ _ _ rfl) (fun _ z => z) (fun _ z => z)
    · rw [← Option.some.inj h]
      exact (gFr_r [737, 738] [] _)
  · rintro x1 x2 x3 x4 s0 M rfl
    rw [sk_laysRefs_39] at h
    rcases gI_or h with h | h
    · obtain ⟨g2, h⟩ := gI_gd h
      obtain ⟨g3, h⟩ := gI_gd h
      rcases gI_or h with h | h
      · exact gFr_t (gFr_a (gFr_r [737, 738] [] _) (.head _) (by decide)) ((hk _ _ h).2.2 _ _ _ _ _ _ _ _ rfl) (fun _ z => z) (fun _ z => z)
      · exact gFr_t (gFr_a (gFr_r [737, 738] [] _) (.head _) (by decide)) ((hk _ _ h).2.2 _ _ _ _ _ _ _ _ rfl) (fun _ z => z) (fun _ z => z)
    · obtain ⟨g5, h⟩ := gI_gd h
      rcases gI_or h with h | h
      · obtain ⟨g7, h⟩ := gI_gd h
        exact gFr_t (gFr_a (gFr_r [737, 738] [] _) (.head _) (by decide)) ((hk _ _ h).2.2 _ _ _ _ _ _ _ _ rfl) (fun _ z => z) (fun _ z => z)
      · exact gFr_t (gFr_a (gFr_r [737, 738] [] _) (.head _) (by decide)) ((hk _ _ h).2.2 _ _ _ _ _ _ _ _ rfl) (fun _ z => z) (fun _ z => z)
  · rintro x1 x2 x3 x4 x5 s1 s2 M rfl
    rw [sk_laysRefs_84] at h
    obtain ⟨g8, h⟩ := gI_gd h
    obtain ⟨r94, e94, h⟩ := gI_bd h
    obtain ⟨g10, h⟩ := gI_gd h
    obtain ⟨r108, e108, h⟩ := gI_bd h
    rcases gI_or h with h | h
    · obtain ⟨g11, h⟩ := gI_gd h
      rcases gI_or h with h | h
      · exact gFr_t (gFr_a (gFr_r [737, 738] [] _) (.tail _ (.head _)) (by decide)) ((hk _ _ h).1 _ _ _ _ rfl) (fun _ z => z) (fun _ z => z)
      · exact gFr_t (gFr_a (gFr_r [737, 738] [] _) (.tail _ (.head _)) (by decide)) ((hk _ _ h).1 _ _ _ _ rfl) (fun _ z => z) (fun _ z => z)
    · obtain ⟨r123, e123, h⟩ := gI_bd h
      obtain ⟨g12, h⟩ := gI_gd h
      rcases gI_or h with h | h
      · exact gFr_t (gFr_a (gFr_a (gFr_a (gFr_r [737, 738] [] _) (.tail _ (.head _)) (by decide)) (.head _) (by decide)) (.tail _ (.head _)) (by decide)) ((hk _ _ h).1 _ _ _ _ rfl) (fun _ z => z) (fun _ z => z)
      · exact gFr_t (gFr_a (gFr_a (gFr_a (gFr_r [737, 738] [] _) (.tail _ (.head _)) (by decide)) (.head _) (by decide)) (.tail _ (.head _)) (by decide)) ((hk _ _ h).1 _ _ _ _ rfl) (fun _ z => z) (fun _ z => z)
theorem fr_laysRefs_4 {M : gM} {x1 x2 x3 : Int} {b : Int × gM} (h : F_laysRefs_4 M x1 x2 x3 = some b) : gFr [737, 738] [] M b.2 :=
  (frp_laysRefs _ _ h).1 _ _ _ _ rfl
theorem fr_laysRefs_39 {M : gM} {x1 x2 x3 x4 s0 : Int} {b : Int × gM} (h : F_laysRefs_39 M x1 x2 x3 x4 s0 = some b) : gFr [737, 738] [] M b.2 :=
  (frp_laysRefs _ _ h).2.1 _ _ _ _ _ _ rfl
theorem fr_laysRefs_84 {M : gM} {x1 x2 x3 x4 x5 s1 s2 : Int} {b : Int × gM} (h : F_laysRefs_84 M x1 x2 x3 x4 x5 s1 s2 = some b) : gFr [737, 738] [] M b.2 :=
  (frp_laysRefs _ _ h).2.2 _ _ _ _ _ _ _ _ rfl
theorem fr_laysRefs {M : gM} {a1 : Int} {b : Int × gM} (h : F_laysRefs M a1 = some b) : gFr [737, 738] [] M b.2 := by
  rw [eq_laysRefs] at h
  exact gFr_t (gFr_r [737, 738] [] _) (fr_laysRefs_4 h) (fun _ z => z) (fun _ z => z)
theorem okp_laysRefs {sh : gS} : ∀ (s : Nat × List Int × gM) (b : Int × gM), gWh (st_laysRefs) s = some b → (∀ (x1 x2 x3 : Int) (M : gM), s = (0, [x1, x2, x3], M) → gOK sh M → gA (gr 2 46) yX12_laysRefs cX12_laysRefs 7 (some (.int)) (gPq sh (some (0, b.1)) b.2) (0, 0) 4 [(4, 711), (0, x1), (0, x2), (0, x3), (9, 0), (9, 0), (9, 0)] [] sh M) ∧ (∀ (x1 x2 x3 x4 s0 : Int) (M : gM), s = (1, [x1, x2, x3, x4, s0], M) → gOK sh M → gA (gr 2 46) yX12_laysRefs cX12_laysRefs 7 (some (.int)) (gPq sh (some (0, b.1)) b.2) (0, 0) 39 [(4, 711), (0, x1), (0, x2), (0, x3), (0, x4), (9, 0), (9, 0)] [(0, s0)] sh M) ∧ (∀ (x1 x2 x3 x4 x5 s1 s2 : Int) (M : gM), s = (2, [x1, x2, x3, x4, x5, s1, s2], M) → gOK sh M → gA (gr 2 46) yX12_laysRefs cX12_laysRefs 7 (some (.int)) (gPq sh (some (0, b.1)) b.2) (0, 0) 84 [(4, 711), (0, x1), (0, x2), (0, x3), (0, x4), (0, x5), (9, 0)] [(0, s2), (0, s1), (4, 738)] sh M) := by
  refine gWh_ind (fun k hk s b h => ⟨?_, ?_, ?_⟩)
  · rintro x1 x2 x3 M rfl hOK
    rw [sk_laysRefs_4] at h
    refine g_iload_n (q0 := 5) (j := 3) rfl dX12_laysRefs_4 rfl ?_
    refine g_bipush (q0 := 7) rfl dX12_laysRefs_5 (k := ?_)
    refine g_icmp_ge (q0 := 10) (tgt := 154) rfl dX12_laysRefs_7 (by decide) (fun h7 => ?_) (fun h7 => ?_)
    · replace h := gI_neg (Int.not_lt.mpr h7) h
      refine g_iload_n (q0 := 155) (j := 2) rfl dX12_laysRefs_154 rfl ?_
      rw [← Option.some.inj h]
      refine g_ireturn dX12_laysRefs_155 rfl ⟨Nat.zero_le _, Nat.zero_le _⟩ ?_
      exact ⟨rfl, rfl, rfl⟩
    · replace h := gI_pos h7 h
      refine g_bipush (q0 := 12) rfl dX12_laysRefs_10 (k := ?_)
      refine g_aload_n (q0 := 13) (j := 0) rfl dX12_laysRefs_12 rfl ?_
      refine g_iload_n (q0 := 14) (j := 1) rfl dX12_laysRefs_13 rfl ?_
      refine g_iconst (q0 := 15) rfl dX12_laysRefs_14 (k := ?_)
      obtain ⟨r15, e15, h⟩ := gI_bd h
      refine g_callVq1 (as := [_, _]) (rest := [_]) mt_X12_ofPlan mi_X12_ofPlan se_X12_ofPlan ml_X12_452 dX12_laysRefs_15 (q0 := 18) rfl rfl (sh_711 hOK) rfl rfl (ok_ofPlan hOK e15) rfl ⟨by decide, by decide⟩ (Nat.le_of_ble_eq_true rfl) ⟨Nat.zero_le _, Nat.zero_le _⟩ ?_
      refine g_imulw (q0 := 19) rfl dX12_laysRefs_18 ?_
      refine g_iload_n (q0 := 20) (j := 3) rfl dX12_laysRefs_19 rfl ?_
      refine g_iaddw (q0 := 21) rfl dX12_laysRefs_20 ?_
      refine g_istore (q0 := 23) (j := 4) (lv2 := [_, _, _, _, _, _, _]) rfl dX12_laysRefs_21 (by decide) rfl rfl ?_
      refine g_aload_n (q0 := 24) (j := 0) rfl dX12_laysRefs_23 rfl ?_
      refine g_getp (q0 := 27) (b := 728) rfl ff_X12_60 dX12_laysRefs_24 rfl hOK (by decide) (sh_711 hOK) rfl (by decide) ?_
      refine g_iload (q0 := 29) (j := 4) rfl dX12_laysRefs_27 rfl ?_
      obtain ⟨g1, h⟩ := gI_gd h
      refine g_iald (q0 := 30) rfl dX12_laysRefs_29 (sh_728 hOK) g1.1 g1.2 ?_
      refine g_iload_n (q0 := 31) (j := 1) rfl dX12_laysRefs_30 rfl ?_
      refine g_icmp_ne (q0 := 34) (tgt := 38) rfl dX12_laysRefs_31 (by decide) (fun h31 => ?_) (fun h31 => ?_)
      · replace h := gI_neg h31 h
        refine g_iconst (q0 := 39) rfl dX12_laysRefs_38 (k := ?_)
        exact (hk _ _ h).2.1 _ _ _ _ _ _ rfl hOK
      · replace h := gI_pos h31 h
        refine g_iconst (q0 := 35) rfl dX12_laysRefs_34 (k := ?_)
        refine g_goto (tgt := 39) dX12_laysRefs_35 (by decide) ?_
        exact (hk _ _ h).2.1 _ _ _ _ _ _ rfl hOK
  · rintro x1 x2 x3 x4 s0 M rfl hOK
    rw [sk_laysRefs_39] at h
    refine g_istore (q0 := 41) (j := 5) (lv2 := [_, _, _, _, _, _, _]) rfl dX12_laysRefs_39 (by decide) rfl rfl ?_
    refine g_aload_n (q0 := 42) (j := 0) rfl dX12_laysRefs_41 rfl ?_
    refine g_getp (q0 := 45) (b := 737) rfl ff_X12_87 dX12_laysRefs_42 rfl hOK (by decide) (sh_711 hOK) rfl (by decide) ?_
    refine g_iload_n (q0 := 46) (j := 3) rfl dX12_laysRefs_45 rfl ?_
    refine g_iload (q0 := 48) (j := 5) rfl dX12_laysRefs_46 rfl ?_
    refine g_if_eq (q0 := 51) (tgt := 55) rfl dX12_laysRefs_48 (by decide) (fun h48 => ?_) (fun h48 => ?_)
    · replace h := gI_pos h48 h
      refine g_aload_n (q0 := 56) (j := 0) rfl dX12_laysRefs_55 rfl ?_
      refine g_getp (q0 := 59) (b := 727) rfl ff_X12_57 dX12_laysRefs_56 rfl hOK (by decide) (sh_711 hOK) rfl (by decide) ?_
      refine g_iload (q0 := 61) (j := 4) rfl dX12_laysRefs_59 rfl ?_
      obtain ⟨g2, h⟩ := gI_gd h
      refine g_iald (q0 := 62) rfl dX12_laysRefs_61 (sh_727 hOK) g2.1 g2.2 ?_
      obtain ⟨g3, h⟩ := gI_gd h
      refine g_iast (q0 := 63) rfl dX12_laysRefs_62 (sh_737 hOK) g3.1 g3.2 ?_
      have hOK4 : gOK sh (gU M 737 x3 (M 727 x4)) := gOK_i hOK (sh_737 hOK)
      refine g_aload_n (q0 := 64) (j := 0) rfl dX12_laysRefs_63 rfl ?_
      refine g_getp (q0 := 67) (b := 738) rfl ff_X12_90 dX12_laysRefs_64 rfl hOK4 (by decide) (sh_711 hOK4) rfl (by decide) ?_
      refine g_iload_n (q0 := 68) (j := 3) rfl dX12_laysRefs_67 rfl ?_
      refine g_iload (q0 := 70) (j := 5) rfl dX12_laysRefs_68 rfl ?_
      refine g_if_eq (q0 := 73) (tgt := 77) rfl dX12_laysRefs_70 (by decide) (fun h70 => ?_) (fun h70 => ?_)
      · replace h := gI_pos h70 h
        refine g_aload_n (q0 := 78) (j := 0) rfl dX12_laysRefs_77 rfl ?_
        refine g_getp (q0 := 81) (b := 728) rfl ff_X12_60 dX12_laysRefs_78 rfl hOK4 (by decide) (sh_711 hOK4) rfl (by decide) ?_
        refine g_iload (q0 := 83) (j := 4) rfl dX12_laysRefs_81 rfl ?_
        refine g_iald (q0 := 84) rfl dX12_laysRefs_83 (sh_728 hOK4) g2.1 g2.2 ?_
        exact (hk _ _ h).2.2 _ _ _ _ _ _ _ _ rfl hOK4
      · replace h := gI_neg h70 h
        refine g_iconst (q0 := 74) rfl dX12_laysRefs_73 (k := ?_)
        refine g_goto (tgt := 84) dX12_laysRefs_74 (by decide) ?_
        exact (hk _ _ h).2.2 _ _ _ _ _ _ _ _ rfl hOK4
    · replace h := gI_neg h48 h
      refine g_iconst (q0 := 52) rfl dX12_laysRefs_51 (k := ?_)
      refine g_goto (tgt := 62) dX12_laysRefs_52 (by decide) ?_
      obtain ⟨g5, h⟩ := gI_gd h
      refine g_iast (q0 := 63) rfl dX12_laysRefs_62 (sh_737 hOK) g5.1 g5.2 ?_
      have hOK6 : gOK sh (gU M 737 x3 (-1)) := gOK_i hOK (sh_737 hOK)
      refine g_aload_n (q0 := 64) (j := 0) rfl dX12_laysRefs_63 rfl ?_
      refine g_getp (q0 := 67) (b := 738) rfl ff_X12_90 dX12_laysRefs_64 rfl hOK6 (by decide) (sh_711 hOK6) rfl (by decide) ?_
      refine g_iload_n (q0 := 68) (j := 3) rfl dX12_laysRefs_67 rfl ?_
      refine g_iload (q0 := 70) (j := 5) rfl dX12_laysRefs_68 rfl ?_
      refine g_if_eq (q0 := 73) (tgt := 77) rfl dX12_laysRefs_70 (by decide) (fun h70 => ?_) (fun h70 => ?_)
      · replace h := gI_pos h70 h
        refine g_aload_n (q0 := 78) (j := 0) rfl dX12_laysRefs_77 rfl ?_
        refine g_getp (q0 := 81) (b := 728) rfl ff_X12_60 dX12_laysRefs_78 rfl hOK6 (by decide) (sh_711 hOK6) rfl (by decide) ?_
        refine g_iload (q0 := 83) (j := 4) rfl dX12_laysRefs_81 rfl ?_
        obtain ⟨g7, h⟩ := gI_gd h
        refine g_iald (q0 := 84) rfl dX12_laysRefs_83 (sh_728 hOK6) g7.1 g7.2 ?_
        exact (hk _ _ h).2.2 _ _ _ _ _ _ _ _ rfl hOK6
      · replace h := gI_neg h70 h
        refine g_iconst (q0 := 74) rfl dX12_laysRefs_73 (k := ?_)
        refine g_goto (tgt := 84) dX12_laysRefs_74 (by decide) ?_
        exact (hk _ _ h).2.2 _ _ _ _ _ _ _ _ rfl hOK6
  · rintro x1 x2 x3 x4 x5 s1 s2 M rfl hOK
    rw [sk_laysRefs_84] at h
    obtain ⟨g8, h⟩ := gI_gd h
    refine g_iast (q0 := 85) rfl dX12_laysRefs_84 (sh_738 hOK) g8.1 g8.2 ?_
    have hOK9 : gOK sh (gU M 738 s1 s2) := gOK_i hOK (sh_738 hOK)
    refine g_aload_n (q0 := 86) (j := 0) rfl dX12_laysRefs_85 rfl ?_
    refine g_getp (q0 := 89) (b := 727) rfl ff_X12_57 dX12_laysRefs_86 rfl hOK9 (by decide) (sh_711 hOK9) rfl (by decide) ?_
    refine g_bipush (q0 := 91) rfl dX12_laysRefs_89 (k := ?_)
    refine g_aload_n (q0 := 92) (j := 0) rfl dX12_laysRefs_91 rfl ?_
    refine g_iload_n (q0 := 93) (j := 1) rfl dX12_laysRefs_92 rfl ?_
    refine g_iconst (q0 := 94) rfl dX12_laysRefs_93 (k := ?_)
    obtain ⟨r94, e94, h⟩ := gI_bd h
    refine g_callVq1 (as := [_, _]) (rest := [_, _]) mt_X12_ofPlan mi_X12_ofPlan se_X12_ofPlan ml_X12_452 dX12_laysRefs_94 (q0 := 97) rfl rfl (sh_711 hOK9) rfl rfl (ok_ofPlan hOK9 e94) rfl ⟨by decide, by decide⟩ (Nat.le_of_ble_eq_true rfl) ⟨Nat.zero_le _, Nat.zero_le _⟩ ?_
    refine g_imulw (q0 := 98) rfl dX12_laysRefs_97 ?_
    refine g_iload_n (q0 := 99) (j := 3) rfl dX12_laysRefs_98 rfl ?_
    refine g_iaddw (q0 := 100) rfl dX12_laysRefs_99 ?_
    obtain ⟨g10, h⟩ := gI_gd h
    refine g_iald (q0 := 101) rfl dX12_laysRefs_100 (sh_727 hOK9) g10.1 g10.2 ?_
    refine g_istore (q0 := 103) (j := 6) (lv2 := [_, _, _, _, _, _, _]) rfl dX12_laysRefs_101 (by decide) rfl rfl ?_
    refine g_aload_n (q0 := 104) (j := 0) rfl dX12_laysRefs_103 rfl ?_
    refine g_iload_n (q0 := 105) (j := 1) rfl dX12_laysRefs_104 rfl ?_
    refine g_iload_n (q0 := 106) (j := 3) rfl dX12_laysRefs_105 rfl ?_
    refine g_iload (q0 := 108) (j := 6) rfl dX12_laysRefs_106 rfl ?_
    obtain ⟨r108, e108, h⟩ := gI_bd h
    refine g_callVq1 (as := [_, _, _]) (rest := []) mt_X12_isLaid mi_X12_isLaid se_X12_isLaid ml_X12_579 dX12_laysRefs_108 (q0 := 111) rfl rfl (sh_711 hOK9) rfl rfl (ok_isLaid hOK9 e108) rfl ⟨by decide, by decide⟩ (Nat.le_of_ble_eq_true rfl) ⟨Nat.zero_le _, Nat.zero_le _⟩ ?_
    refine g_if_eq (q0 := 114) (tgt := 134) rfl dX12_laysRefs_111 (by decide) (fun h111 => ?_) (fun h111 => ?_)
    · replace h := gI_pos h111 h
      refine g_aload_n (q0 := 135) (j := 0) rfl dX12_laysRefs_134 rfl ?_
      refine g_getp (q0 := 138) (b := 737) rfl ff_X12_87 dX12_laysRefs_135 rfl hOK9 (by decide) (sh_711 hOK9) rfl (by decide) ?_
      refine g_iload_n (q0 := 139) (j := 3) rfl dX12_laysRefs_138 rfl ?_
      obtain ⟨g11, h⟩ := gI_gd h
      refine g_iald (q0 := 140) rfl dX12_laysRefs_139 (sh_737 hOK9) g11.1 g11.2 ?_
      refine g_iconst (q0 := 141) rfl dX12_laysRefs_140 (k := ?_)
      refine g_icmp_eq (q0 := 144) (tgt := 148) rfl dX12_laysRefs_141 (by decide) (fun h141 => ?_) (fun h141 => ?_)
      · replace h := gI_pos h141 h
        refine g_iincw (q0 := 151) (lv2 := [_, _, _, _, _, _, _]) rfl dX12_laysRefs_148 rfl (by decide) rfl rfl ?_
        refine g_goto (tgt := 4) dX12_laysRefs_151 (by decide) ?_
        refine gA_jk (lv1 := [_, _, _, _, (9, 0), (9, 0), (9, 0)]) ⟨.inl rfl, .inl rfl, .inl rfl, .inl rfl, .inr rfl, .inr rfl, .inr rfl, trivial⟩ ?_
        exact (hk _ _ h).1 _ _ _ _ rfl hOK9
      · replace h := gI_neg h141 h
        refine g_iload_n (q0 := 145) (j := 2) rfl dX12_laysRefs_144 rfl ?_
        refine g_iconst (q0 := 146) rfl dX12_laysRefs_145 (k := ?_)
        refine g_iaddw (q0 := 147) rfl dX12_laysRefs_146 ?_
        refine g_istore_n (q0 := 148) (j := 2) (lv2 := [_, _, _, _, _, _, _]) rfl dX12_laysRefs_147 (by decide) rfl rfl ?_
        refine g_iincw (q0 := 151) (lv2 := [_, _, _, _, _, _, _]) rfl dX12_laysRefs_148 rfl (by decide) rfl rfl ?_
        refine g_goto (tgt := 4) dX12_laysRefs_151 (by decide) ?_
        refine gA_jk (lv1 := [_, _, _, _, (9, 0), (9, 0), (9, 0)]) ⟨.inl rfl, .inl rfl, .inl rfl, .inl rfl, .inr rfl, .inr rfl, .inr rfl, trivial⟩ ?_
        exact (hk _ _ h).1 _ _ _ _ rfl hOK9
    · replace h := gI_neg h111 h
      refine g_aload_n (q0 := 115) (j := 0) rfl dX12_laysRefs_114 rfl ?_
      refine g_getp (q0 := 118) (b := 737) rfl ff_X12_87 dX12_laysRefs_115 rfl hOK9 (by decide) (sh_711 hOK9) rfl (by decide) ?_
      refine g_iload_n (q0 := 119) (j := 3) rfl dX12_laysRefs_118 rfl ?_
      refine g_aload_n (q0 := 120) (j := 0) rfl dX12_laysRefs_119 rfl ?_
      refine g_iload_n (q0 := 121) (j := 1) rfl dX12_laysRefs_120 rfl ?_
      refine g_iload (q0 := 123) (j := 6) rfl dX12_laysRefs_121 rfl ?_
      obtain ⟨r123, e123, h⟩ := gI_bd h
      refine g_callVq1 (as := [_, _]) (rest := [_, _]) mt_X12_imageAt mi_X12_imageAt se_X12_imageAt ml_X12_513 dX12_laysRefs_123 (q0 := 126) rfl rfl (sh_711 hOK9) rfl rfl (ok_imageAt hOK9 e123) rfl ⟨by decide, by decide⟩ (Nat.le_of_ble_eq_true rfl) ⟨Nat.zero_le _, Nat.zero_le _⟩ ?_
      obtain ⟨g12, h⟩ := gI_gd h
      refine g_iast (q0 := 127) rfl dX12_laysRefs_126 (sh_737 hOK9) g12.1 g12.2 ?_
      have hOK13 : gOK sh (gU (gU M 738 s1 s2) 737 x3 r123) := gOK_i hOK9 (sh_737 hOK9)
      refine g_aload_n (q0 := 128) (j := 0) rfl dX12_laysRefs_127 rfl ?_
      refine g_getp (q0 := 131) (b := 738) rfl ff_X12_90 dX12_laysRefs_128 rfl hOK13 (by decide) (sh_711 hOK13) rfl (by decide) ?_
      refine g_iload_n (q0 := 132) (j := 3) rfl dX12_laysRefs_131 rfl ?_
      refine g_iload_n (q0 := 133) (j := 1) rfl dX12_laysRefs_132 rfl ?_
      refine g_iast (q0 := 134) rfl dX12_laysRefs_133 (sh_738 hOK13) g12.1 g12.2 ?_
      have hOK14 : gOK sh (gU (gU (gU M 738 s1 s2) 737 x3 r123) 738 x3 x1) := gOK_i hOK13 (sh_738 hOK13)
      refine g_aload_n (q0 := 135) (j := 0) rfl dX12_laysRefs_134 rfl ?_
      refine g_getp (q0 := 138) (b := 737) rfl ff_X12_87 dX12_laysRefs_135 rfl hOK14 (by decide) (sh_711 hOK14) rfl (by decide) ?_
      refine g_iload_n (q0 := 139) (j := 3) rfl dX12_laysRefs_138 rfl ?_
      refine g_iald (q0 := 140) rfl dX12_laysRefs_139 (sh_737 hOK14) g12.1 g12.2 ?_
      refine g_iconst (q0 := 141) rfl dX12_laysRefs_140 (k := ?_)
      refine g_icmp_eq (q0 := 144) (tgt := 148) rfl dX12_laysRefs_141 (by decide) (fun h141 => ?_) (fun h141 => ?_)
      · replace h := gI_pos h141 h
        refine g_iincw (q0 := 151) (lv2 := [_, _, _, _, _, _, _]) rfl dX12_laysRefs_148 rfl (by decide) rfl rfl ?_
        refine g_goto (tgt := 4) dX12_laysRefs_151 (by decide) ?_
        refine gA_jk (lv1 := [_, _, _, _, (9, 0), (9, 0), (9, 0)]) ⟨.inl rfl, .inl rfl, .inl rfl, .inl rfl, .inr rfl, .inr rfl, .inr rfl, trivial⟩ ?_
        exact (hk _ _ h).1 _ _ _ _ rfl hOK14
      · replace h := gI_neg h141 h
        refine g_iload_n (q0 := 145) (j := 2) rfl dX12_laysRefs_144 rfl ?_
        refine g_iconst (q0 := 146) rfl dX12_laysRefs_145 (k := ?_)
        refine g_iaddw (q0 := 147) rfl dX12_laysRefs_146 ?_
        refine g_istore_n (q0 := 148) (j := 2) (lv2 := [_, _, _, _, _, _, _]) rfl dX12_laysRefs_147 (by decide) rfl rfl ?_
        refine g_iincw (q0 := 151) (lv2 := [_, _, _, _, _, _, _]) rfl dX12_laysRefs_148 rfl (by decide) rfl rfl ?_
        refine g_goto (tgt := 4) dX12_laysRefs_151 (by decide) ?_
        refine gA_jk (lv1 := [_, _, _, _, (9, 0), (9, 0), (9, 0)]) ⟨.inl rfl, .inl rfl, .inl rfl, .inl rfl, .inr rfl, .inr rfl, .inr rfl, trivial⟩ ?_
        exact (hk _ _ h).1 _ _ _ _ rfl hOK14
theorem ok_laysRefs_4 {sh : gS} {M : gM} {x1 x2 x3 : Int} {b : Int × gM} (hOK : gOK sh M) (h : F_laysRefs_4 M x1 x2 x3 = some b) : gA (gr 2 46) yX12_laysRefs cX12_laysRefs 7 (some (.int)) (gPq sh (some (0, b.1)) b.2) (0, 0) 4 [(4, 711), (0, x1), (0, x2), (0, x3), (9, 0), (9, 0), (9, 0)] [] sh M :=
  (okp_laysRefs _ _ h).1 _ _ _ _ rfl hOK
theorem ok_laysRefs_39 {sh : gS} {M : gM} {x1 x2 x3 x4 s0 : Int} {b : Int × gM} (hOK : gOK sh M) (h : F_laysRefs_39 M x1 x2 x3 x4 s0 = some b) : gA (gr 2 46) yX12_laysRefs cX12_laysRefs 7 (some (.int)) (gPq sh (some (0, b.1)) b.2) (0, 0) 39 [(4, 711), (0, x1), (0, x2), (0, x3), (0, x4), (9, 0), (9, 0)] [(0, s0)] sh M :=
  (okp_laysRefs _ _ h).2.1 _ _ _ _ _ _ rfl hOK
theorem ok_laysRefs_84 {sh : gS} {M : gM} {x1 x2 x3 x4 x5 s1 s2 : Int} {b : Int × gM} (hOK : gOK sh M) (h : F_laysRefs_84 M x1 x2 x3 x4 x5 s1 s2 = some b) : gA (gr 2 46) yX12_laysRefs cX12_laysRefs 7 (some (.int)) (gPq sh (some (0, b.1)) b.2) (0, 0) 84 [(4, 711), (0, x1), (0, x2), (0, x3), (0, x4), (0, x5), (9, 0)] [(0, s2), (0, s1), (4, 738)] sh M :=
  (okp_laysRefs _ _ h).2.2 _ _ _ _ _ _ _ _ rfl hOK
theorem ok_laysRefs {sh : gS} {M : gM} {a1 : Int} {b : Int × gM} (hOK : gOK sh M) (h : F_laysRefs M a1 = some b) : gC (gr 2 46) yX12_laysRefs cX12_laysRefs 7 (some (.int)) [(4, 711), (0, a1)] sh M (gPq sh (some (0, b.1)) b.2) := by
  rw [eq_laysRefs] at h
  refine gC_ofA (lv := [_, _, _, _, _, _, _]) (by decide +kernel) (Nat.le_of_ble_eq_true rfl) rfl (fun hMw hav => ?_)
  refine g_iconst (q0 := 1) rfl dX12_laysRefs_0 (k := ?_)
  refine g_istore_n (q0 := 2) (j := 2) (lv2 := [_, _, _, _, _, _, _]) rfl dX12_laysRefs_1 (by decide) rfl rfl ?_
  refine g_iconst (q0 := 3) rfl dX12_laysRefs_2 (k := ?_)
  refine g_istore_n (q0 := 4) (j := 3) (lv2 := [_, _, _, _, _, _, _]) rfl dX12_laysRefs_3 (by decide) rfl rfl ?_
  exact ok_laysRefs_4 hOK h
-- ==== remembers
theorem dX12_remembers_0 : decode cX12_remembers 0 = .ok (.iconst 0, 1) := by decide +kernel
theorem dX12_remembers_1 : decode cX12_remembers 1 = .ok (.istore_n 2, 1) := by decide +kernel
theorem dX12_remembers_2 : decode cX12_remembers 2 = .ok (.iload_n 2, 1) := by decide +kernel
theorem dX12_remembers_3 : decode cX12_remembers 3 = .ok (.bipush 120, 2) := by decide +kernel
theorem dX12_remembers_5 : decode cX12_remembers 5 = .ok (.if_icmp .ge 43, 3) := by decide +kernel
theorem dX12_remembers_8 : decode cX12_remembers 8 = .ok (.aload_n 0, 1) := by decide +kernel
theorem dX12_remembers_9 : decode cX12_remembers 9 = .ok (.getfield 93, 3) := by decide +kernel
theorem dX12_remembers_12 : decode cX12_remembers 12 = .ok (.iload_n 2, 1) := by decide +kernel
theorem dX12_remembers_13 : decode cX12_remembers 13 = .ok (.aload_n 0, 1) := by decide +kernel
theorem dX12_remembers_14 : decode cX12_remembers 14 = .ok (.getfield 66, 3) := by decide +kernel
theorem dX12_remembers_17 : decode cX12_remembers 17 = .ok (.bipush 120, 2) := by decide +kernel
theorem dX12_remembers_19 : decode cX12_remembers 19 = .ok (.iload_n 1, 1) := by decide +kernel
theorem dX12_remembers_20 : decode cX12_remembers 20 = .ok (.imul, 1) := by decide +kernel
theorem dX12_remembers_21 : decode cX12_remembers 21 = .ok (.iload_n 2, 1) := by decide +kernel
theorem dX12_remembers_22 : decode cX12_remembers 22 = .ok (.iadd, 1) := by decide +kernel
theorem dX12_remembers_23 : decode cX12_remembers 23 = .ok (.iaload, 1) := by decide +kernel
theorem dX12_remembers_24 : decode cX12_remembers 24 = .ok (.iastore, 1) := by decide +kernel
theorem dX12_remembers_25 : decode cX12_remembers 25 = .ok (.aload_n 0, 1) := by decide +kernel
theorem dX12_remembers_26 : decode cX12_remembers 26 = .ok (.getfield 96, 3) := by decide +kernel
theorem dX12_remembers_29 : decode cX12_remembers 29 = .ok (.iload_n 2, 1) := by decide +kernel
theorem dX12_remembers_30 : decode cX12_remembers 30 = .ok (.aload_n 0, 1) := by decide +kernel
theorem dX12_remembers_31 : decode cX12_remembers 31 = .ok (.getfield 69, 3) := by decide +kernel
theorem dX12_remembers_34 : decode cX12_remembers 34 = .ok (.bipush 120, 2) := by decide +kernel
theorem dX12_remembers_36 : decode cX12_remembers 36 = .ok (.iload_n 1, 1) := by decide +kernel
theorem dX12_remembers_37 : decode cX12_remembers 37 = .ok (.imul, 1) := by decide +kernel
theorem dX12_remembers_38 : decode cX12_remembers 38 = .ok (.iload_n 2, 1) := by decide +kernel
theorem dX12_remembers_39 : decode cX12_remembers 39 = .ok (.iadd, 1) := by decide +kernel
theorem dX12_remembers_40 : decode cX12_remembers 40 = .ok (.iaload, 1) := by decide +kernel
theorem dX12_remembers_41 : decode cX12_remembers 41 = .ok (.iastore, 1) := by decide +kernel
theorem dX12_remembers_42 : decode cX12_remembers 42 = .ok (.iinc 2 1, 3) := by decide +kernel
theorem dX12_remembers_45 : decode cX12_remembers 45 = .ok (.goto (-43), 3) := by decide +kernel
theorem dX12_remembers_48 : decode cX12_remembers 48 = .ok (.return_, 1) := by decide +kernel
noncomputable def st_remembers : Nat × List Int × gM → Option ((Nat × List Int × gM) ⊕ (gM))
  | (0, [x1, x2], M) => (if x2 < 120 then
      (if 0 ≤ (gw32 ((gw32 ((120 : Int) * x1)) + x2)) ∧ (gw32 ((gw32 ((120 : Int) * x1)) + x2)) < 480 then
        (if 0 ≤ x2 ∧ x2 < 120 then
          some (.inl (0, [x1, (gw32 (x2 + 1))], (gU (gU M 739 x2 (M 730 (gw32 ((gw32 ((120 : Int) * x1)) + x2)))) 740 x2 ((gU M 739 x2 (M 730 (gw32 ((gw32 ((120 : Int) * x1)) + x2)))) 731 (gw32 ((gw32 ((120 : Int) * x1)) + x2))))))
        else none)
      else none)
    else
      some (.inr M))
  | _ => none
theorem sk_remembers_2 (k : Nat × List Int × gM → Option (gM)) (M : gM) (x1 x2 : Int) : gWk k (st_remembers (0, [x1, x2], M)) = (if x2 < 120 then
    (if 0 ≤ (gw32 ((gw32 ((120 : Int) * x1)) + x2)) ∧ (gw32 ((gw32 ((120 : Int) * x1)) + x2)) < 480 then
      (if 0 ≤ x2 ∧ x2 < 120 then
        k (0, [x1, (gw32 (x2 + 1))], (gU (gU M 739 x2 (M 730 (gw32 ((gw32 ((120 : Int) * x1)) + x2)))) 740 x2 ((gU M 739 x2 (M 730 (gw32 ((gw32 ((120 : Int) * x1)) + x2)))) 731 (gw32 ((gw32 ((120 : Int) * x1)) + x2)))))
      else none)
    else none)
  else
    some M) := by
  simp only [st_remembers, gWk_ite, gWk_bind, gWk_inl, gWk_inr, gWk_none]
noncomputable def F_remembers_2 (M : gM) (x1 x2 : Int) : Option (gM) := gWh (st_remembers) (0, [x1, x2], M)
theorem eq_remembers_2 (M : gM) (x1 x2 : Int) : F_remembers_2 M x1 x2 = (if x2 < 120 then
    (if 0 ≤ (gw32 ((gw32 ((120 : Int) * x1)) + x2)) ∧ (gw32 ((gw32 ((120 : Int) * x1)) + x2)) < 480 then
      (if 0 ≤ x2 ∧ x2 < 120 then
        F_remembers_2 (gU (gU M 739 x2 (M 730 (gw32 ((gw32 ((120 : Int) * x1)) + x2)))) 740 x2 ((gU M 739 x2 (M 730 (gw32 ((gw32 ((120 : Int) * x1)) + x2)))) 731 (gw32 ((gw32 ((120 : Int) * x1)) + x2)))) x1 (gw32 (x2 + 1))
      else none)
    else none)
  else
    some M) := (gWh_eq _).trans (sk_remembers_2 _ M x1 x2)
noncomputable def F_remembers (M : gM) (a1 : Int) : Option (gM) := F_remembers_2 M a1 0
theorem eq_remembers (M : gM) (a1 : Int) : F_remembers M a1 = F_remembers_2 M a1 0 := rfl
theorem frp_remembers : ∀ (s : Nat × List Int × gM) (b : gM), gWh (st_remembers) s = some b → (∀ (x1 x2 : Int) (M : gM), s = (0, [x1, x2], M) → gFr [739, 740] [] M b) := by
  refine gWh_ind (fun k hk s b h => ?_)
  · rintro x1 x2 M rfl
    rw [sk_remembers_2] at h
    rcases gI_or h with h | h
    · obtain ⟨g1, h⟩ := gI_gd h
      obtain ⟨g2, h⟩ := gI_gd h
      exact gFr_t (gFr_a (gFr_a (gFr_r [739, 740] [] _) (.head _) (by decide)) (.tail _ (.head _)) (by decide)) ((hk _ _ h) _ _ _ rfl) (fun _ z => z) (fun _ z => z)
    · rw [← Option.some.inj h]
      exact (gFr_r [739, 740] [] _)
theorem fr_remembers_2 {M : gM} {x1 x2 : Int} {b : gM} (h : F_remembers_2 M x1 x2 = some b) : gFr [739, 740] [] M b :=
  (frp_remembers _ _ h) _ _ _ rfl
theorem fr_remembers {M : gM} {a1 : Int} {b : gM} (h : F_remembers M a1 = some b) : gFr [739, 740] [] M b := by
  rw [eq_remembers] at h
  exact gFr_t (gFr_r [739, 740] [] _) (fr_remembers_2 h) (fun _ z => z) (fun _ z => z)
theorem okp_remembers {sh : gS} : ∀ (s : Nat × List Int × gM) (b : gM), gWh (st_remembers) s = some b → (∀ (x1 x2 : Int) (M : gM), s = (0, [x1, x2], M) → gOK sh M → gA (gr 0 0) yX12_remembers cX12_remembers 3 none (gPq sh none b) (0, 0) 2 [(4, 711), (0, x1), (0, x2)] [] sh M) := by
  refine gWh_ind (fun k hk s b h => ?_)
  · rintro x1 x2 M rfl hOK
    rw [sk_remembers_2] at h
    refine g_iload_n (q0 := 3) (j := 2) rfl dX12_remembers_2 rfl ?_
    refine g_bipush (q0 := 5) rfl dX12_remembers_3 (k := ?_)
    refine g_icmp_ge (q0 := 8) (tgt := 48) rfl dX12_remembers_5 (by decide) (fun h5 => ?_) (fun h5 => ?_)
    · replace h := gI_neg (Int.not_lt.mpr h5) h
      rw [← Option.some.inj h]
      refine g_return dX12_remembers_48 rfl ⟨Nat.zero_le _, Nat.zero_le _⟩ ?_
      exact ⟨rfl, rfl, rfl⟩
    · replace h := gI_pos h5 h
      refine g_aload_n (q0 := 9) (j := 0) rfl dX12_remembers_8 rfl ?_
      refine g_getp (q0 := 12) (b := 739) rfl ff_X12_93 dX12_remembers_9 rfl hOK (by decide) (sh_711 hOK) rfl (by decide) ?_
      refine g_iload_n (q0 := 13) (j := 2) rfl dX12_remembers_12 rfl ?_
      refine g_aload_n (q0 := 14) (j := 0) rfl dX12_remembers_13 rfl ?_
      refine g_getp (q0 := 17) (b := 730) rfl ff_X12_66 dX12_remembers_14 rfl hOK (by decide) (sh_711 hOK) rfl (by decide) ?_
      refine g_bipush (q0 := 19) rfl dX12_remembers_17 (k := ?_)
      refine g_iload_n (q0 := 20) (j := 1) rfl dX12_remembers_19 rfl ?_
      refine g_imulw (q0 := 21) rfl dX12_remembers_20 ?_
      refine g_iload_n (q0 := 22) (j := 2) rfl dX12_remembers_21 rfl ?_
      refine g_iaddw (q0 := 23) rfl dX12_remembers_22 ?_
      obtain ⟨g1, h⟩ := gI_gd h
      refine g_iald (q0 := 24) rfl dX12_remembers_23 (sh_730 hOK) g1.1 g1.2 ?_
      obtain ⟨g2, h⟩ := gI_gd h
      refine g_iast (q0 := 25) rfl dX12_remembers_24 (sh_739 hOK) g2.1 g2.2 ?_
      have hOK3 : gOK sh (gU M 739 x2 (M 730 (gw32 ((gw32 ((120 : Int) * x1)) + x2)))) := gOK_i hOK (sh_739 hOK)
      refine g_aload_n (q0 := 26) (j := 0) rfl dX12_remembers_25 rfl ?_
      refine g_getp (q0 := 29) (b := 740) rfl ff_X12_96 dX12_remembers_26 rfl hOK3 (by decide) (sh_711 hOK3) rfl (by decide) ?_
      refine g_iload_n (q0 := 30) (j := 2) rfl dX12_remembers_29 rfl ?_
      refine g_aload_n (q0 := 31) (j := 0) rfl dX12_remembers_30 rfl ?_
      refine g_getp (q0 := 34) (b := 731) rfl ff_X12_69 dX12_remembers_31 rfl hOK3 (by decide) (sh_711 hOK3) rfl (by decide) ?_
      refine g_bipush (q0 := 36) rfl dX12_remembers_34 (k := ?_)
      refine g_iload_n (q0 := 37) (j := 1) rfl dX12_remembers_36 rfl ?_
      refine g_imulw (q0 := 38) rfl dX12_remembers_37 ?_
      refine g_iload_n (q0 := 39) (j := 2) rfl dX12_remembers_38 rfl ?_
      refine g_iaddw (q0 := 40) rfl dX12_remembers_39 ?_
      refine g_iald (q0 := 41) rfl dX12_remembers_40 (sh_731 hOK3) g1.1 g1.2 ?_
      refine g_iast (q0 := 42) rfl dX12_remembers_41 (sh_740 hOK3) g2.1 g2.2 ?_
      have hOK4 : gOK sh (gU (gU M 739 x2 (M 730 (gw32 ((gw32 ((120 : Int) * x1)) + x2)))) 740 x2 ((gU M 739 x2 (M 730 (gw32 ((gw32 ((120 : Int) * x1)) + x2)))) 731 (gw32 ((gw32 ((120 : Int) * x1)) + x2)))) := gOK_i hOK3 (sh_740 hOK3)
      refine g_iincw (q0 := 45) (lv2 := [_, _, _]) rfl dX12_remembers_42 rfl (by decide) rfl rfl ?_
      refine g_goto (tgt := 2) dX12_remembers_45 (by decide) ?_
      exact (hk _ _ h) _ _ _ rfl hOK4
theorem ok_remembers_2 {sh : gS} {M : gM} {x1 x2 : Int} {b : gM} (hOK : gOK sh M) (h : F_remembers_2 M x1 x2 = some b) : gA (gr 0 0) yX12_remembers cX12_remembers 3 none (gPq sh none b) (0, 0) 2 [(4, 711), (0, x1), (0, x2)] [] sh M :=
  (okp_remembers _ _ h) _ _ _ rfl hOK
theorem ok_remembers {sh : gS} {M : gM} {a1 : Int} {b : gM} (hOK : gOK sh M) (h : F_remembers M a1 = some b) : gC (gr 0 0) yX12_remembers cX12_remembers 3 none [(4, 711), (0, a1)] sh M (gPq sh none b) := by
  rw [eq_remembers] at h
  refine gC_ofA (lv := [_, _, _]) (by decide +kernel) (Nat.le_of_ble_eq_true rfl) rfl (fun hMw hav => ?_)
  refine g_iconst (q0 := 1) rfl dX12_remembers_0 (k := ?_)
  refine g_istore_n (q0 := 2) (j := 2) (lv2 := [_, _, _]) rfl dX12_remembers_1 (by decide) rfl rfl ?_
  exact ok_remembers_2 hOK h
-- ==== goesBack
theorem dX12_goesBack_0 : decode cX12_goesBack 0 = .ok (.aload_n 0, 1) := by decide +kernel
theorem dX12_goesBack_1 : decode cX12_goesBack 1 = .ok (.iload_n 2, 1) := by decide +kernel
theorem dX12_goesBack_2 : decode cX12_goesBack 2 = .ok (.putfield 178, 3) := by decide +kernel
theorem dX12_goesBack_5 : decode cX12_goesBack 5 = .ok (.iconst 0, 1) := by decide +kernel
theorem dX12_goesBack_6 : decode cX12_goesBack 6 = .ok (.istore_n 3, 1) := by decide +kernel
theorem dX12_goesBack_7 : decode cX12_goesBack 7 = .ok (.iload_n 3, 1) := by decide +kernel
theorem dX12_goesBack_8 : decode cX12_goesBack 8 = .ok (.bipush 120, 2) := by decide +kernel
theorem dX12_goesBack_10 : decode cX12_goesBack 10 = .ok (.if_icmp .ge 43, 3) := by decide +kernel
theorem dX12_goesBack_13 : decode cX12_goesBack 13 = .ok (.aload_n 0, 1) := by decide +kernel
theorem dX12_goesBack_14 : decode cX12_goesBack 14 = .ok (.getfield 66, 3) := by decide +kernel
theorem dX12_goesBack_17 : decode cX12_goesBack 17 = .ok (.bipush 120, 2) := by decide +kernel
theorem dX12_goesBack_19 : decode cX12_goesBack 19 = .ok (.iload_n 1, 1) := by decide +kernel
theorem dX12_goesBack_20 : decode cX12_goesBack 20 = .ok (.imul, 1) := by decide +kernel
theorem dX12_goesBack_21 : decode cX12_goesBack 21 = .ok (.iload_n 3, 1) := by decide +kernel
theorem dX12_goesBack_22 : decode cX12_goesBack 22 = .ok (.iadd, 1) := by decide +kernel
theorem dX12_goesBack_23 : decode cX12_goesBack 23 = .ok (.aload_n 0, 1) := by decide +kernel
theorem dX12_goesBack_24 : decode cX12_goesBack 24 = .ok (.getfield 93, 3) := by decide +kernel
theorem dX12_goesBack_27 : decode cX12_goesBack 27 = .ok (.iload_n 3, 1) := by decide +kernel
theorem dX12_goesBack_28 : decode cX12_goesBack 28 = .ok (.iaload, 1) := by decide +kernel
theorem dX12_goesBack_29 : decode cX12_goesBack 29 = .ok (.iastore, 1) := by decide +kernel
theorem dX12_goesBack_30 : decode cX12_goesBack 30 = .ok (.aload_n 0, 1) := by decide +kernel
theorem dX12_goesBack_31 : decode cX12_goesBack 31 = .ok (.getfield 69, 3) := by decide +kernel
theorem dX12_goesBack_34 : decode cX12_goesBack 34 = .ok (.bipush 120, 2) := by decide +kernel
theorem dX12_goesBack_36 : decode cX12_goesBack 36 = .ok (.iload_n 1, 1) := by decide +kernel
theorem dX12_goesBack_37 : decode cX12_goesBack 37 = .ok (.imul, 1) := by decide +kernel
theorem dX12_goesBack_38 : decode cX12_goesBack 38 = .ok (.iload_n 3, 1) := by decide +kernel
theorem dX12_goesBack_39 : decode cX12_goesBack 39 = .ok (.iadd, 1) := by decide +kernel
theorem dX12_goesBack_40 : decode cX12_goesBack 40 = .ok (.aload_n 0, 1) := by decide +kernel
theorem dX12_goesBack_41 : decode cX12_goesBack 41 = .ok (.getfield 96, 3) := by decide +kernel
theorem dX12_goesBack_44 : decode cX12_goesBack 44 = .ok (.iload_n 3, 1) := by decide +kernel
theorem dX12_goesBack_45 : decode cX12_goesBack 45 = .ok (.iaload, 1) := by decide +kernel
theorem dX12_goesBack_46 : decode cX12_goesBack 46 = .ok (.iastore, 1) := by decide +kernel
theorem dX12_goesBack_47 : decode cX12_goesBack 47 = .ok (.iinc 3 1, 3) := by decide +kernel
theorem dX12_goesBack_50 : decode cX12_goesBack 50 = .ok (.goto (-43), 3) := by decide +kernel
theorem dX12_goesBack_53 : decode cX12_goesBack 53 = .ok (.return_, 1) := by decide +kernel
noncomputable def st_goesBack : Nat × List Int × gM → Option ((Nat × List Int × gM) ⊕ (gM))
  | (0, [x1, x2, x3], M) => (if x3 < 120 then
      (if 0 ≤ x3 ∧ x3 < 120 then
        (if 0 ≤ (gw32 ((gw32 ((120 : Int) * x1)) + x3)) ∧ (gw32 ((gw32 ((120 : Int) * x1)) + x3)) < 480 then
          some (.inl (0, [x1, x2, (gw32 (x3 + 1))], (gU (gU M 730 (gw32 ((gw32 ((120 : Int) * x1)) + x3)) (M 739 x3)) 731 (gw32 ((gw32 ((120 : Int) * x1)) + x3)) ((gU M 730 (gw32 ((gw32 ((120 : Int) * x1)) + x3)) (M 739 x3)) 740 x3))))
        else none)
      else none)
    else
      some (.inr M))
  | _ => none
theorem sk_goesBack_7 (k : Nat × List Int × gM → Option (gM)) (M : gM) (x1 x2 x3 : Int) : gWk k (st_goesBack (0, [x1, x2, x3], M)) = (if x3 < 120 then
    (if 0 ≤ x3 ∧ x3 < 120 then
      (if 0 ≤ (gw32 ((gw32 ((120 : Int) * x1)) + x3)) ∧ (gw32 ((gw32 ((120 : Int) * x1)) + x3)) < 480 then
        k (0, [x1, x2, (gw32 (x3 + 1))], (gU (gU M 730 (gw32 ((gw32 ((120 : Int) * x1)) + x3)) (M 739 x3)) 731 (gw32 ((gw32 ((120 : Int) * x1)) + x3)) ((gU M 730 (gw32 ((gw32 ((120 : Int) * x1)) + x3)) (M 739 x3)) 740 x3)))
      else none)
    else none)
  else
    some M) := by
  simp only [st_goesBack, gWk_ite, gWk_bind, gWk_inl, gWk_inr, gWk_none]
noncomputable def F_goesBack_7 (M : gM) (x1 x2 x3 : Int) : Option (gM) := gWh (st_goesBack) (0, [x1, x2, x3], M)
theorem eq_goesBack_7 (M : gM) (x1 x2 x3 : Int) : F_goesBack_7 M x1 x2 x3 = (if x3 < 120 then
    (if 0 ≤ x3 ∧ x3 < 120 then
      (if 0 ≤ (gw32 ((gw32 ((120 : Int) * x1)) + x3)) ∧ (gw32 ((gw32 ((120 : Int) * x1)) + x3)) < 480 then
        F_goesBack_7 (gU (gU M 730 (gw32 ((gw32 ((120 : Int) * x1)) + x3)) (M 739 x3)) 731 (gw32 ((gw32 ((120 : Int) * x1)) + x3)) ((gU M 730 (gw32 ((gw32 ((120 : Int) * x1)) + x3)) (M 739 x3)) 740 x3)) x1 x2 (gw32 (x3 + 1))
      else none)
    else none)
  else
    some M) := (gWh_eq _).trans (sk_goesBack_7 _ M x1 x2 x3)
noncomputable def F_goesBack (M : gM) (a1 a2 : Int) : Option (gM) := F_goesBack_7 (gU M 711 0 a2) a1 a2 0
theorem eq_goesBack (M : gM) (a1 a2 : Int) : F_goesBack M a1 a2 = F_goesBack_7 (gU M 711 0 a2) a1 a2 0 := rfl
theorem frp_goesBack : ∀ (s : Nat × List Int × gM) (b : gM), gWh (st_goesBack) s = some b → (∀ (x1 x2 x3 : Int) (M : gM), s = (0, [x1, x2, x3], M) → gFr [730, 731] [0] M b) := by
  refine gWh_ind (fun k hk s b h => ?_)
  · rintro x1 x2 x3 M rfl
    rw [sk_goesBack_7] at h
    rcases gI_or h with h | h
    · obtain ⟨g1, h⟩ := gI_gd h
      obtain ⟨g2, h⟩ := gI_gd h
      exact gFr_t (gFr_a (gFr_a (gFr_r [730, 731] [0] _) (.head _) (by decide)) (.tail _ (.head _)) (by decide)) ((hk _ _ h) _ _ _ _ rfl) (fun _ z => z) (fun _ z => z)
    · rw [← Option.some.inj h]
      exact (gFr_r [730, 731] [0] _)
theorem fr_goesBack_7 {M : gM} {x1 x2 x3 : Int} {b : gM} (h : F_goesBack_7 M x1 x2 x3 = some b) : gFr [730, 731] [0] M b :=
  (frp_goesBack _ _ h) _ _ _ _ rfl
theorem fr_goesBack {M : gM} {a1 a2 : Int} {b : gM} (h : F_goesBack M a1 a2 = some b) : gFr [730, 731] [0] M b := by
  rw [eq_goesBack] at h
  exact gFr_t (gFr_f (gFr_r [730, 731] [0] _) (.head _)) (fr_goesBack_7 h) (fun _ z => z) (fun _ z => z)
theorem okp_goesBack {sh : gS} : ∀ (s : Nat × List Int × gM) (b : gM), gWh (st_goesBack) s = some b → (∀ (x1 x2 x3 : Int) (M : gM), s = (0, [x1, x2, x3], M) → gOK sh M → gA (gr 0 0) yX12_goesBack cX12_goesBack 4 none (gPq sh none b) (0, 0) 7 [(4, 711), (0, x1), (0, x2), (0, x3)] [] sh M) := by
  refine gWh_ind (fun k hk s b h => ?_)
  · rintro x1 x2 x3 M rfl hOK
    rw [sk_goesBack_7] at h
    refine g_iload_n (q0 := 8) (j := 3) rfl dX12_goesBack_7 rfl ?_
    refine g_bipush (q0 := 10) rfl dX12_goesBack_8 (k := ?_)
    refine g_icmp_ge (q0 := 13) (tgt := 53) rfl dX12_goesBack_10 (by decide) (fun h10 => ?_) (fun h10 => ?_)
    · replace h := gI_neg (Int.not_lt.mpr h10) h
      rw [← Option.some.inj h]
      refine g_return dX12_goesBack_53 rfl ⟨Nat.zero_le _, Nat.zero_le _⟩ ?_
      exact ⟨rfl, rfl, rfl⟩
    · replace h := gI_pos h10 h
      refine g_aload_n (q0 := 14) (j := 0) rfl dX12_goesBack_13 rfl ?_
      refine g_getp (q0 := 17) (b := 730) rfl ff_X12_66 dX12_goesBack_14 rfl hOK (by decide) (sh_711 hOK) rfl (by decide) ?_
      refine g_bipush (q0 := 19) rfl dX12_goesBack_17 (k := ?_)
      refine g_iload_n (q0 := 20) (j := 1) rfl dX12_goesBack_19 rfl ?_
      refine g_imulw (q0 := 21) rfl dX12_goesBack_20 ?_
      refine g_iload_n (q0 := 22) (j := 3) rfl dX12_goesBack_21 rfl ?_
      refine g_iaddw (q0 := 23) rfl dX12_goesBack_22 ?_
      refine g_aload_n (q0 := 24) (j := 0) rfl dX12_goesBack_23 rfl ?_
      refine g_getp (q0 := 27) (b := 739) rfl ff_X12_93 dX12_goesBack_24 rfl hOK (by decide) (sh_711 hOK) rfl (by decide) ?_
      refine g_iload_n (q0 := 28) (j := 3) rfl dX12_goesBack_27 rfl ?_
      obtain ⟨g1, h⟩ := gI_gd h
      refine g_iald (q0 := 29) rfl dX12_goesBack_28 (sh_739 hOK) g1.1 g1.2 ?_
      obtain ⟨g2, h⟩ := gI_gd h
      refine g_iast (q0 := 30) rfl dX12_goesBack_29 (sh_730 hOK) g2.1 g2.2 ?_
      have hOK3 : gOK sh (gU M 730 (gw32 ((gw32 ((120 : Int) * x1)) + x3)) (M 739 x3)) := gOK_i hOK (sh_730 hOK)
      refine g_aload_n (q0 := 31) (j := 0) rfl dX12_goesBack_30 rfl ?_
      refine g_getp (q0 := 34) (b := 731) rfl ff_X12_69 dX12_goesBack_31 rfl hOK3 (by decide) (sh_711 hOK3) rfl (by decide) ?_
      refine g_bipush (q0 := 36) rfl dX12_goesBack_34 (k := ?_)
      refine g_iload_n (q0 := 37) (j := 1) rfl dX12_goesBack_36 rfl ?_
      refine g_imulw (q0 := 38) rfl dX12_goesBack_37 ?_
      refine g_iload_n (q0 := 39) (j := 3) rfl dX12_goesBack_38 rfl ?_
      refine g_iaddw (q0 := 40) rfl dX12_goesBack_39 ?_
      refine g_aload_n (q0 := 41) (j := 0) rfl dX12_goesBack_40 rfl ?_
      refine g_getp (q0 := 44) (b := 740) rfl ff_X12_96 dX12_goesBack_41 rfl hOK3 (by decide) (sh_711 hOK3) rfl (by decide) ?_
      refine g_iload_n (q0 := 45) (j := 3) rfl dX12_goesBack_44 rfl ?_
      refine g_iald (q0 := 46) rfl dX12_goesBack_45 (sh_740 hOK3) g1.1 g1.2 ?_
      refine g_iast (q0 := 47) rfl dX12_goesBack_46 (sh_731 hOK3) g2.1 g2.2 ?_
      have hOK4 : gOK sh (gU (gU M 730 (gw32 ((gw32 ((120 : Int) * x1)) + x3)) (M 739 x3)) 731 (gw32 ((gw32 ((120 : Int) * x1)) + x3)) ((gU M 730 (gw32 ((gw32 ((120 : Int) * x1)) + x3)) (M 739 x3)) 740 x3)) := gOK_i hOK3 (sh_731 hOK3)
      refine g_iincw (q0 := 50) (lv2 := [_, _, _, _]) rfl dX12_goesBack_47 rfl (by decide) rfl rfl ?_
      refine g_goto (tgt := 7) dX12_goesBack_50 (by decide) ?_
      exact (hk _ _ h) _ _ _ _ rfl hOK4
theorem ok_goesBack_7 {sh : gS} {M : gM} {x1 x2 x3 : Int} {b : gM} (hOK : gOK sh M) (h : F_goesBack_7 M x1 x2 x3 = some b) : gA (gr 0 0) yX12_goesBack cX12_goesBack 4 none (gPq sh none b) (0, 0) 7 [(4, 711), (0, x1), (0, x2), (0, x3)] [] sh M :=
  (okp_goesBack _ _ h) _ _ _ _ rfl hOK
theorem ok_goesBack {sh : gS} {M : gM} {a1 a2 : Int} {b : gM} (hOK : gOK sh M) (h : F_goesBack M a1 a2 = some b) : gC (gr 0 0) yX12_goesBack cX12_goesBack 4 none [(4, 711), (0, a1), (0, a2)] sh M (gPq sh none b) := by
  rw [eq_goesBack] at h
  refine gC_ofA (lv := [_, _, _, _]) (by decide +kernel) (Nat.le_of_ble_eq_true rfl) rfl (fun hMw hav => ?_)
  refine g_aload_n (q0 := 1) (j := 0) rfl dX12_goesBack_0 rfl ?_
  refine g_iload_n (q0 := 2) (j := 2) rfl dX12_goesBack_1 rfl ?_
  refine g_put (q0 := 5) (t := 0) (fi := 0) rfl rfl ff_X12_178 dX12_goesBack_2 rfl (sh_711 hOK) rfl (fun _ => ⟨rfl, rfl⟩) ?_
  have hOK5 : gOK sh (gU M 711 0 a2) := gOK_o hOK (sh_711 hOK) (f := 0) rfl rfl
  refine g_iconst (q0 := 6) rfl dX12_goesBack_5 (k := ?_)
  refine g_istore_n (q0 := 7) (j := 3) (lv2 := [_, _, _, _]) rfl dX12_goesBack_6 (by decide) rfl rfl ?_
  exact ok_goesBack_7 hOK5 h
-- ==== runs
theorem dX12_runs_0 : decode cX12_runs 0 = .ok (.aload_n 0, 1) := by decide +kernel
theorem dX12_runs_1 : decode cX12_runs 1 = .ok (.getfield 178, 3) := by decide +kernel
theorem dX12_runs_4 : decode cX12_runs 4 = .ok (.istore_n 2, 1) := by decide +kernel
theorem dX12_runs_5 : decode cX12_runs 5 = .ok (.iconst 0, 1) := by decide +kernel
theorem dX12_runs_6 : decode cX12_runs 6 = .ok (.istore_n 3, 1) := by decide +kernel
theorem dX12_runs_7 : decode cX12_runs 7 = .ok (.aload_n 0, 1) := by decide +kernel
theorem dX12_runs_8 : decode cX12_runs 8 = .ok (.iload_n 1, 1) := by decide +kernel
theorem dX12_runs_9 : decode cX12_runs 9 = .ok (.invokevirtual 582, 3) := by decide +kernel
theorem dX12_runs_12 : decode cX12_runs 12 = .ok (.iconst 1, 1) := by decide +kernel
theorem dX12_runs_13 : decode cX12_runs 13 = .ok (.istore 4, 2) := by decide +kernel
theorem dX12_runs_15 : decode cX12_runs 15 = .ok (.iconst 0, 1) := by decide +kernel
theorem dX12_runs_16 : decode cX12_runs 16 = .ok (.istore 5, 2) := by decide +kernel
theorem dX12_runs_18 : decode cX12_runs 18 = .ok (.iload 5, 2) := by decide +kernel
theorem dX12_runs_20 : decode cX12_runs 20 = .ok (.iload_n 2, 1) := by decide +kernel
theorem dX12_runs_21 : decode cX12_runs 21 = .ok (.if_icmp .ge 53, 3) := by decide +kernel
theorem dX12_runs_24 : decode cX12_runs 24 = .ok (.iload 4, 2) := by decide +kernel
theorem dX12_runs_26 : decode cX12_runs 26 = .ok (.ifCond .eq 48, 3) := by decide +kernel
theorem dX12_runs_29 : decode cX12_runs 29 = .ok (.aload_n 0, 1) := by decide +kernel
theorem dX12_runs_30 : decode cX12_runs 30 = .ok (.getfield 84, 3) := by decide +kernel
theorem dX12_runs_33 : decode cX12_runs 33 = .ok (.iload 5, 2) := by decide +kernel
theorem dX12_runs_35 : decode cX12_runs 35 = .ok (.baload, 1) := by decide +kernel
theorem dX12_runs_36 : decode cX12_runs 36 = .ok (.ifCond .eq 32, 3) := by decide +kernel
theorem dX12_runs_39 : decode cX12_runs 39 = .ok (.aload_n 0, 1) := by decide +kernel
theorem dX12_runs_40 : decode cX12_runs 40 = .ok (.getfield 66, 3) := by decide +kernel
theorem dX12_runs_43 : decode cX12_runs 43 = .ok (.bipush 120, 2) := by decide +kernel
theorem dX12_runs_45 : decode cX12_runs 45 = .ok (.iload_n 1, 1) := by decide +kernel
theorem dX12_runs_46 : decode cX12_runs 46 = .ok (.imul, 1) := by decide +kernel
theorem dX12_runs_47 : decode cX12_runs 47 = .ok (.iload 5, 2) := by decide +kernel
theorem dX12_runs_49 : decode cX12_runs 49 = .ok (.iadd, 1) := by decide +kernel
theorem dX12_runs_50 : decode cX12_runs 50 = .ok (.iaload, 1) := by decide +kernel
theorem dX12_runs_51 : decode cX12_runs 51 = .ok (.iconst (-1), 1) := by decide +kernel
theorem dX12_runs_52 : decode cX12_runs 52 = .ok (.if_icmp .ne 16, 3) := by decide +kernel
theorem dX12_runs_55 : decode cX12_runs 55 = .ok (.aload_n 0, 1) := by decide +kernel
theorem dX12_runs_56 : decode cX12_runs 56 = .ok (.iload_n 1, 1) := by decide +kernel
theorem dX12_runs_57 : decode cX12_runs 57 = .ok (.iload 5, 2) := by decide +kernel
theorem dX12_runs_59 : decode cX12_runs 59 = .ok (.invokevirtual 585, 3) := by decide +kernel
theorem dX12_runs_62 : decode cX12_runs 62 = .ok (.istore 4, 2) := by decide +kernel
theorem dX12_runs_64 : decode cX12_runs 64 = .ok (.iload_n 3, 1) := by decide +kernel
theorem dX12_runs_65 : decode cX12_runs 65 = .ok (.iconst 1, 1) := by decide +kernel
theorem dX12_runs_66 : decode cX12_runs 66 = .ok (.iadd, 1) := by decide +kernel
theorem dX12_runs_67 : decode cX12_runs 67 = .ok (.istore_n 3, 1) := by decide +kernel
theorem dX12_runs_68 : decode cX12_runs 68 = .ok (.iinc 5 1, 3) := by decide +kernel
theorem dX12_runs_71 : decode cX12_runs 71 = .ok (.goto (-53), 3) := by decide +kernel
theorem dX12_runs_74 : decode cX12_runs 74 = .ok (.iload 4, 2) := by decide +kernel
theorem dX12_runs_76 : decode cX12_runs 76 = .ok (.ifCond .eq 17, 3) := by decide +kernel
theorem dX12_runs_79 : decode cX12_runs 79 = .ok (.aload_n 0, 1) := by decide +kernel
theorem dX12_runs_80 : decode cX12_runs 80 = .ok (.iload_n 1, 1) := by decide +kernel
theorem dX12_runs_81 : decode cX12_runs 81 = .ok (.invokevirtual 588, 3) := by decide +kernel
theorem dX12_runs_84 : decode cX12_runs 84 = .ok (.bipush 8, 2) := by decide +kernel
theorem dX12_runs_86 : decode cX12_runs 86 = .ok (.if_icmp .gt 7, 3) := by decide +kernel
theorem dX12_runs_89 : decode cX12_runs 89 = .ok (.iconst 1, 1) := by decide +kernel
theorem dX12_runs_90 : decode cX12_runs 90 = .ok (.goto 4, 3) := by decide +kernel
theorem dX12_runs_93 : decode cX12_runs 93 = .ok (.iconst 0, 1) := by decide +kernel
theorem dX12_runs_94 : decode cX12_runs 94 = .ok (.istore 5, 2) := by decide +kernel
theorem dX12_runs_96 : decode cX12_runs 96 = .ok (.iload 5, 2) := by decide +kernel
theorem dX12_runs_98 : decode cX12_runs 98 = .ok (.ifCond .ne 22, 3) := by decide +kernel
theorem dX12_runs_101 : decode cX12_runs 101 = .ok (.aload_n 0, 1) := by decide +kernel
theorem dX12_runs_102 : decode cX12_runs 102 = .ok (.iload_n 1, 1) := by decide +kernel
theorem dX12_runs_103 : decode cX12_runs 103 = .ok (.iload_n 2, 1) := by decide +kernel
theorem dX12_runs_104 : decode cX12_runs 104 = .ok (.invokevirtual 591, 3) := by decide +kernel
theorem dX12_runs_107 : decode cX12_runs 107 = .ok (.iload 4, 2) := by decide +kernel
theorem dX12_runs_109 : decode cX12_runs 109 = .ok (.ifCond .eq 8, 3) := by decide +kernel
theorem dX12_runs_112 : decode cX12_runs 112 = .ok (.bipush (-5), 2) := by decide +kernel
theorem dX12_runs_114 : decode cX12_runs 114 = .ok (.goto 5, 3) := by decide +kernel
theorem dX12_runs_117 : decode cX12_runs 117 = .ok (.bipush (-3), 2) := by decide +kernel
theorem dX12_runs_119 : decode cX12_runs 119 = .ok (.ireturn, 1) := by decide +kernel
theorem dX12_runs_120 : decode cX12_runs 120 = .ok (.iconst 0, 1) := by decide +kernel
theorem dX12_runs_121 : decode cX12_runs 121 = .ok (.istore 6, 2) := by decide +kernel
theorem dX12_runs_123 : decode cX12_runs 123 = .ok (.iload 6, 2) := by decide +kernel
theorem dX12_runs_125 : decode cX12_runs 125 = .ok (.bipush 52, 2) := by decide +kernel
theorem dX12_runs_127 : decode cX12_runs 127 = .ok (.if_icmp .ge 35, 3) := by decide +kernel
theorem dX12_runs_130 : decode cX12_runs 130 = .ok (.aload_n 0, 1) := by decide +kernel
theorem dX12_runs_131 : decode cX12_runs 131 = .ok (.aload_n 0, 1) := by decide +kernel
theorem dX12_runs_132 : decode cX12_runs 132 = .ok (.iload_n 1, 1) := by decide +kernel
theorem dX12_runs_133 : decode cX12_runs 133 = .ok (.iconst 2, 1) := by decide +kernel
theorem dX12_runs_134 : decode cX12_runs 134 = .ok (.invokevirtual 452, 3) := by decide +kernel
theorem dX12_runs_137 : decode cX12_runs 137 = .ok (.iload 6, 2) := by decide +kernel
theorem dX12_runs_139 : decode cX12_runs 139 = .ok (.aload_n 0, 1) := by decide +kernel
theorem dX12_runs_140 : decode cX12_runs 140 = .ok (.getfield 87, 3) := by decide +kernel
theorem dX12_runs_143 : decode cX12_runs 143 = .ok (.iload 6, 2) := by decide +kernel
theorem dX12_runs_145 : decode cX12_runs 145 = .ok (.iaload, 1) := by decide +kernel
theorem dX12_runs_146 : decode cX12_runs 146 = .ok (.aload_n 0, 1) := by decide +kernel
theorem dX12_runs_147 : decode cX12_runs 147 = .ok (.getfield 90, 3) := by decide +kernel
theorem dX12_runs_150 : decode cX12_runs 150 = .ok (.iload 6, 2) := by decide +kernel
theorem dX12_runs_152 : decode cX12_runs 152 = .ok (.iaload, 1) := by decide +kernel
theorem dX12_runs_153 : decode cX12_runs 153 = .ok (.invokevirtual 359, 3) := by decide +kernel
theorem dX12_runs_156 : decode cX12_runs 156 = .ok (.iinc 6 1, 3) := by decide +kernel
theorem dX12_runs_159 : decode cX12_runs 159 = .ok (.goto (-36), 3) := by decide +kernel
theorem dX12_runs_162 : decode cX12_runs 162 = .ok (.iload_n 3, 1) := by decide +kernel
theorem dX12_runs_163 : decode cX12_runs 163 = .ok (.ireturn, 1) := by decide +kernel
noncomputable def st_runs : Nat × List Int × gM → Option ((Nat × List Int × gM) ⊕ (Int × gM))
  | (0, [x1, x2, x3, x4, x5], M) => (if x5 < x2 then
      (if x4 = 0 then
        some (.inl (1, [x1, x2, x3, x4, x5], M))
      else
        (if 0 ≤ x5 ∧ x5 < 120 then
          (if (M 736 x5) = 0 then
            some (.inl (0, [x1, x2, x3, x4, (gw32 (x5 + 1))], M))
          else
            (if 0 ≤ (gw32 ((gw32 ((120 : Int) * x1)) + x5)) ∧ (gw32 ((gw32 ((120 : Int) * x1)) + x5)) < 480 then
              (if (M 730 (gw32 ((gw32 ((120 : Int) * x1)) + x5))) = -1 then
                (Option.bind (F_rewrites M x1 x5) (fun p59 =>
                  some (.inl (0, [x1, x2, (gw32 (x3 + (1 : Int))), p59.1, (gw32 (x5 + 1))], p59.2))))
              else
                some (.inl (0, [x1, x2, x3, x4, (gw32 (x5 + 1))], M)))
            else none))
        else none))
    else
      some (.inl (1, [x1, x2, x3, x4, x5], M)))
  | (1, [x1, x2, x3, x4, x5], M) => (if x4 = 0 then
      some (.inl (2, [x1, x2, x3, x4, x5], M))
    else
      (Option.bind (F_laysRefs M x1) (fun p81 =>
        (if (8 : Int) < p81.1 then
          some (.inl (2, [x1, x2, x3, x4, x5], p81.2))
        else
          some (.inl (3, [x1, x2, x3, x4, 1, 0], p81.2))))))
  | (2, [x1, x2, x3, x4, x5], M) => (Option.bind (F_goesBack M x1 x2) (fun m104 =>
      (if x4 = 0 then
        some (.inr (-3, m104))
      else
        some (.inr (-5, m104)))))
  | (3, [x1, x2, x3, x4, x5, x6], M) => (if x6 < 52 then
      (Option.bind (F_ofPlan M x1 2) (fun r134 =>
        (if 0 ≤ x6 ∧ x6 < 52 then
          (Option.bind (F_laysRef M r134 x6 (M 737 x6) (M 738 x6)) (fun m153 =>
            some (.inl (3, [x1, x2, x3, x4, x5, (gw32 (x6 + 1))], m153))))
        else none)))
    else
      some (.inr (x3, M)))
  | _ => none
theorem sk_runs_18 (k : Nat × List Int × gM → Option (Int × gM)) (M : gM) (x1 x2 x3 x4 x5 : Int) : gWk k (st_runs (0, [x1, x2, x3, x4, x5], M)) = (if x5 < x2 then
    (if x4 = 0 then
      k (1, [x1, x2, x3, x4, x5], M)
    else
      (if 0 ≤ x5 ∧ x5 < 120 then
        (if (M 736 x5) = 0 then
          k (0, [x1, x2, x3, x4, (gw32 (x5 + 1))], M)
        else
          (if 0 ≤ (gw32 ((gw32 ((120 : Int) * x1)) + x5)) ∧ (gw32 ((gw32 ((120 : Int) * x1)) + x5)) < 480 then
            (if (M 730 (gw32 ((gw32 ((120 : Int) * x1)) + x5))) = -1 then
              (Option.bind (F_rewrites M x1 x5) (fun p59 =>
                k (0, [x1, x2, (gw32 (x3 + (1 : Int))), p59.1, (gw32 (x5 + 1))], p59.2)))
            else
              k (0, [x1, x2, x3, x4, (gw32 (x5 + 1))], M))
          else none))
      else none))
  else
    k (1, [x1, x2, x3, x4, x5], M)) := by
  simp only [st_runs, gWk_ite, gWk_bind, gWk_inl, gWk_inr, gWk_none]
theorem sk_runs_74 (k : Nat × List Int × gM → Option (Int × gM)) (M : gM) (x1 x2 x3 x4 x5 : Int) : gWk k (st_runs (1, [x1, x2, x3, x4, x5], M)) = (if x4 = 0 then
    k (2, [x1, x2, x3, x4, x5], M)
  else
    (Option.bind (F_laysRefs M x1) (fun p81 =>
      (if (8 : Int) < p81.1 then
        k (2, [x1, x2, x3, x4, x5], p81.2)
      else
        k (3, [x1, x2, x3, x4, 1, 0], p81.2))))) := by
  simp only [st_runs, gWk_ite, gWk_bind, gWk_inl, gWk_inr, gWk_none]
theorem sk_runs_93 (k : Nat × List Int × gM → Option (Int × gM)) (M : gM) (x1 x2 x3 x4 x5 : Int) : gWk k (st_runs (2, [x1, x2, x3, x4, x5], M)) = (Option.bind (F_goesBack M x1 x2) (fun m104 =>
    (if x4 = 0 then
      some (-3, m104)
    else
      some (-5, m104)))) := by
  simp only [st_runs, gWk_ite, gWk_bind, gWk_inl, gWk_inr, gWk_none]
theorem sk_runs_123 (k : Nat × List Int × gM → Option (Int × gM)) (M : gM) (x1 x2 x3 x4 x5 x6 : Int) : gWk k (st_runs (3, [x1, x2, x3, x4, x5, x6], M)) = (if x6 < 52 then
    (Option.bind (F_ofPlan M x1 2) (fun r134 =>
      (if 0 ≤ x6 ∧ x6 < 52 then
        (Option.bind (F_laysRef M r134 x6 (M 737 x6) (M 738 x6)) (fun m153 =>
          k (3, [x1, x2, x3, x4, x5, (gw32 (x6 + 1))], m153)))
      else none)))
  else
    some (x3, M)) := by
  simp only [st_runs, gWk_ite, gWk_bind, gWk_inl, gWk_inr, gWk_none]
noncomputable def F_runs_18 (M : gM) (x1 x2 x3 x4 x5 : Int) : Option (Int × gM) := gWh (st_runs) (0, [x1, x2, x3, x4, x5], M)
noncomputable def F_runs_74 (M : gM) (x1 x2 x3 x4 x5 : Int) : Option (Int × gM) := gWh (st_runs) (1, [x1, x2, x3, x4, x5], M)
noncomputable def F_runs_93 (M : gM) (x1 x2 x3 x4 x5 : Int) : Option (Int × gM) := gWh (st_runs) (2, [x1, x2, x3, x4, x5], M)
noncomputable def F_runs_123 (M : gM) (x1 x2 x3 x4 x5 x6 : Int) : Option (Int × gM) := gWh (st_runs) (3, [x1, x2, x3, x4, x5, x6], M)
theorem eq_runs_18 (M : gM) (x1 x2 x3 x4 x5 : Int) : F_runs_18 M x1 x2 x3 x4 x5 = (if x5 < x2 then
    (if x4 = 0 then
      F_runs_74 M x1 x2 x3 x4 x5
    else
      (if 0 ≤ x5 ∧ x5 < 120 then
        (if (M 736 x5) = 0 then
          F_runs_18 M x1 x2 x3 x4 (gw32 (x5 + 1))
        else
          (if 0 ≤ (gw32 ((gw32 ((120 : Int) * x1)) + x5)) ∧ (gw32 ((gw32 ((120 : Int) * x1)) + x5)) < 480 then
            (if (M 730 (gw32 ((gw32 ((120 : Int) * x1)) + x5))) = -1 then
              (Option.bind (F_rewrites M x1 x5) (fun p59 =>
                F_runs_18 p59.2 x1 x2 (gw32 (x3 + (1 : Int))) p59.1 (gw32 (x5 + 1))))
            else
              F_runs_18 M x1 x2 x3 x4 (gw32 (x5 + 1)))
          else none))
      else none))
  else
    F_runs_74 M x1 x2 x3 x4 x5) := (gWh_eq _).trans (sk_runs_18 _ M x1 x2 x3 x4 x5)
theorem eq_runs_74 (M : gM) (x1 x2 x3 x4 x5 : Int) : F_runs_74 M x1 x2 x3 x4 x5 = (if x4 = 0 then
    F_runs_93 M x1 x2 x3 x4 x5
  else
    (Option.bind (F_laysRefs M x1) (fun p81 =>
      (if (8 : Int) < p81.1 then
        F_runs_93 p81.2 x1 x2 x3 x4 x5
      else
        F_runs_123 p81.2 x1 x2 x3 x4 1 0)))) := (gWh_eq _).trans (sk_runs_74 _ M x1 x2 x3 x4 x5)
theorem eq_runs_93 (M : gM) (x1 x2 x3 x4 x5 : Int) : F_runs_93 M x1 x2 x3 x4 x5 = (Option.bind (F_goesBack M x1 x2) (fun m104 =>
    (if x4 = 0 then
      some (-3, m104)
    else
      some (-5, m104)))) := (gWh_eq _).trans (sk_runs_93 _ M x1 x2 x3 x4 x5)
theorem eq_runs_123 (M : gM) (x1 x2 x3 x4 x5 x6 : Int) : F_runs_123 M x1 x2 x3 x4 x5 x6 = (if x6 < 52 then
    (Option.bind (F_ofPlan M x1 2) (fun r134 =>
      (if 0 ≤ x6 ∧ x6 < 52 then
        (Option.bind (F_laysRef M r134 x6 (M 737 x6) (M 738 x6)) (fun m153 =>
          F_runs_123 m153 x1 x2 x3 x4 x5 (gw32 (x6 + 1))))
      else none)))
  else
    some (x3, M)) := (gWh_eq _).trans (sk_runs_123 _ M x1 x2 x3 x4 x5 x6)
noncomputable def F_runs (M : gM) (a1 : Int) : Option (Int × gM) := (Option.bind (F_marksPlan M a1) (fun m9 =>
    F_runs_18 m9 a1 (M 711 0) 0 1 0))
theorem eq_runs (M : gM) (a1 : Int) : F_runs M a1 = (Option.bind (F_marksPlan M a1) (fun m9 =>
    F_runs_18 m9 a1 (M 711 0) 0 1 0)) := rfl
theorem frp_runs : ∀ (s : Nat × List Int × gM) (b : Int × gM), gWh (st_runs) s = some b → (∀ (x1 x2 x3 x4 x5 : Int) (M : gM), s = (0, [x1, x2, x3, x4, x5], M) → gFr [712, 713, 714, 715, 716, 717, 718, 719, 720, 721, 722, 723, 727, 728, 730, 731, 732, 733, 734, 735, 736, 737, 738] [0, 12, 13, 32, 33, 37, 38] M b.2) ∧ (∀ (x1 x2 x3 x4 x5 : Int) (M : gM), s = (1, [x1, x2, x3, x4, x5], M) → gFr [712, 713, 714, 715, 716, 717, 718, 719, 720, 721, 722, 723, 727, 728, 730, 731, 732, 733, 734, 735, 736, 737, 738] [0, 12, 13, 32, 33, 37, 38] M b.2) ∧ (∀ (x1 x2 x3 x4 x5 : Int) (M : gM), s = (2, [x1, x2, x3, x4, x5], M) → gFr [712, 713, 714, 715, 716, 717, 718, 719, 720, 721, 722, 723, 727, 728, 730, 731, 732, 733, 734, 735, 736, 737, 738] [0, 12, 13, 32, 33, 37, 38] M b.2) ∧ (∀ (x1 x2 x3 x4 x5 x6 : Int) (M : gM), s = (3, [x1, x2, x3, x4, x5, x6], M) → gFr [712, 713, 714, 715, 716, 717, 718, 719, 720, 721, 722, 723, 727, 728, 730, 731, 732, 733, 734, 735, 736, 737, 738] [0, 12, 13, 32, 33, 37, 38] M b.2) := by
  refine gWh_ind (fun k hk s b h => ⟨?_, ?_, ?_, ?_⟩)
  · rintro x1 x2 x3 x4 x5 M rfl
    rw [sk_runs_18] at h
    rcases gI_or h with h | h
    · rcases gI_or h with h | h
      · exact gFr_t (gFr_r [712, 713, 714, 715, 716, 717, 718, 719, 720, 721, 722, 723, 727, 728, 730, 731, 732, 733, 734, 735, 736, 737, 738] [0, 12, 13, 32, 33, 37, 38] _) ((hk _ _ h).2.1 _ _ _ _ _ _ rfl) (fun _ z => z) (fun _ z => z)
      · obtain ⟨g1, h⟩ := gI_gd h
        rcases gI_or h with h | h
        · exact gFr_t (gFr_r [712, 713, 714, 715, 716, 717, 718, 719, 720, 721, 722, 723, 727, 728, 730, 731, 732, 733, 734, 735, 736, 737, 738] [0, 12, 13, 32, 33, 37, 38] _) ((hk _ _ h).1 _ _ _ _ _ _ rfl) (fun _ z => z) (fun _ z => z)
        · obtain ⟨g2, h⟩ := gI_gd h
          rcases gI_or h with h | h
          · obtain ⟨p59, e59, h⟩ := gI_bd h
            exact gFr_t (gFr_t (gFr_r [712, 713, 714, 715, 716, 717, 718, 719, 720, 721, 722, 723, 727, 728, 730, 731, 732, 733, 734, 735, 736, 737, 738] [0, 12, 13, 32, 33, 37, 38] _) (fr_rewrites (b := p59) e59) (by first | decide | simp) (by decide)) ((hk _ _ h).1 _ _ _ _ _ _ rfl) (fun _ z => z) (fun _ z => z)
          · exact gFr_t (gFr_r [712, 713, 714, 715, 716, 717, 718, 719, 720, 721, 722, 723, 727, 728, 730, 731, 732, 733, 734, 735, 736, 737, 738] [0, 12, 13, 32, 33, 37, 38] _) ((hk _ _ h).1 _ _ _ _ _ _ rfl) (fun _ z => z) (fun _ z => z)
    · exact gFr_t (gFr_r [712, 713, 714, 715, 716, 717, 718, 719, 720, 721, 722, 723, 727, 728, 730, 731, 732, 733, 734, 735, 736, 737, 738] [0, 12, 13, 32, 33, 37, 38] _) ((hk _ _ h).2.1 _ _ _ _ _ _ rfl) (fun _ z => z) (fun _ z => z)
  · rintro x1 x2 x3 x4 x5 M rfl
    rw [sk_runs_74] at h
    rcases gI_or h with h | h
    · exact gFr_t (gFr_r [712, 713, 714, 715, 716, 717, 718, 719, 720, 721, 722, 723, 727, 728, 730, 731, 732, 733, 734, 735, 736, 737, 738] [0, 12, 13, 32, 33, 37, 38] _) ((hk _ _ h).2.2.1 _ _ _ _ _ _ rfl) (fun _ z => z) (fun _ z => z)
    · obtain ⟨p81, e81, h⟩ := gI_bd h
      rcases gI_or h with h | h
      · exact gFr_t (gFr_t (gFr_r [712, 713, 714, 715, 716, 717, 718, 719, 720, 721, 722, 723, 727, 728, 730, 731, 732, 733, 734, 735, 736, 737, 738] [0, 12, 13, 32, 33, 37, 38] _) (fr_laysRefs (b := p81) e81) (by first | decide | simp) (by decide)) ((hk _ _ h).2.2.1 _ _ _ _ _ _ rfl) (fun _ z => z) (fun _ z => z)
      · exact gFr_t (gFr_t (gFr_r [712, 713, 714, 715, 716, 717, 718, 719, 720, 721, 722, 723, 727, 728, 730, 731, 732, 733, 734, 735, 736, 737, 738] [0, 12, 13, 32, 33, 37, 38] _) (fr_laysRefs (b := p81) e81) (by first | decide | simp) (by decide)) ((hk _ _ h).2.2.2 _ _ _ _ _ _ _ rfl) (fun _ z => z) (fun _ z => z)
  · rintro x1 x2 x3 x4 x5 M rfl
    rw [sk_runs_93] at h
    obtain ⟨m104, e104, h⟩ := gI_bd h
    rcases gI_or h with h | h
    · rw [← Option.some.inj h]
      exact (gFr_t (gFr_r [712, 713, 714, 715, 716, 717, 718, 719, 720, 721, 722, 723, 727, 728, 730, 731, 732, 733, 734, 735, 736, 737, 738] [0, 12, 13, 32, 33, 37, 38] _) (fr_goesBack (b := m104) e104) (by first | decide | simp) (by decide))
    · rw [← Option.some.inj h]
      exact (gFr_t (gFr_r [712, 713, 714, 715, 716, 717, 718, 719, 720, 721, 722, 723, 727, 728, 730, 731, 732, 733, 734, 735, 736, 737, 738] [0, 12, 13, 32, 33, 37, 38] _) (fr_goesBack (b := m104) e104) (by first | decide | simp) (by decide))
  · rintro x1 x2 x3 x4 x5 x6 M rfl
    rw [sk_runs_123] at h
    rcases gI_or h with h | h
    · obtain ⟨r134, e134, h⟩ := gI_bd h
      obtain ⟨g6, h⟩ := gI_gd h
      obtain ⟨m153, e153, h⟩ := gI_bd h
      exact gFr_t (gFr_t (gFr_r [712, 713, 714, 715, 716, 717, 718, 719, 720, 721, 722, 723, 727, 728, 730, 731, 732, 733, 734, 735, 736, 737, 738] [0, 12, 13, 32, 33, 37, 38] _) (fr_laysRef (b := m153) e153) (by first | decide | simp) (by decide)) ((hk _ _ h).2.2.2 _ _ _ _ _ _ _ rfl) (fun _ z => z) (fun _ z => z)
    · rw [← Option.some.inj h]
      exact (gFr_r [712, 713, 714, 715, 716, 717, 718, 719, 720, 721, 722, 723, 727, 728, 730, 731, 732, 733, 734, 735, 736, 737, 738] [0, 12, 13, 32, 33, 37, 38] _)
theorem fr_runs_18 {M : gM} {x1 x2 x3 x4 x5 : Int} {b : Int × gM} (h : F_runs_18 M x1 x2 x3 x4 x5 = some b) : gFr [712, 713, 714, 715, 716, 717, 718, 719, 720, 721, 722, 723, 727, 728, 730, 731, 732, 733, 734, 735, 736, 737, 738] [0, 12, 13, 32, 33, 37, 38] M b.2 :=
  (frp_runs _ _ h).1 _ _ _ _ _ _ rfl
theorem fr_runs_74 {M : gM} {x1 x2 x3 x4 x5 : Int} {b : Int × gM} (h : F_runs_74 M x1 x2 x3 x4 x5 = some b) : gFr [712, 713, 714, 715, 716, 717, 718, 719, 720, 721, 722, 723, 727, 728, 730, 731, 732, 733, 734, 735, 736, 737, 738] [0, 12, 13, 32, 33, 37, 38] M b.2 :=
  (frp_runs _ _ h).2.1 _ _ _ _ _ _ rfl
theorem fr_runs_93 {M : gM} {x1 x2 x3 x4 x5 : Int} {b : Int × gM} (h : F_runs_93 M x1 x2 x3 x4 x5 = some b) : gFr [712, 713, 714, 715, 716, 717, 718, 719, 720, 721, 722, 723, 727, 728, 730, 731, 732, 733, 734, 735, 736, 737, 738] [0, 12, 13, 32, 33, 37, 38] M b.2 :=
  (frp_runs _ _ h).2.2.1 _ _ _ _ _ _ rfl
theorem fr_runs_123 {M : gM} {x1 x2 x3 x4 x5 x6 : Int} {b : Int × gM} (h : F_runs_123 M x1 x2 x3 x4 x5 x6 = some b) : gFr [712, 713, 714, 715, 716, 717, 718, 719, 720, 721, 722, 723, 727, 728, 730, 731, 732, 733, 734, 735, 736, 737, 738] [0, 12, 13, 32, 33, 37, 38] M b.2 :=
  (frp_runs _ _ h).2.2.2 _ _ _ _ _ _ _ rfl
theorem fr_runs {M : gM} {a1 : Int} {b : Int × gM} (h : F_runs M a1 = some b) : gFr [712, 713, 714, 715, 716, 717, 718, 719, 720, 721, 722, 723, 727, 728, 730, 731, 732, 733, 734, 735, 736, 737, 738] [0, 12, 13, 32, 33, 37, 38] M b.2 := by
  rw [eq_runs] at h
  obtain ⟨m9, e9, h⟩ := gI_bd h
  exact gFr_t (gFr_t (gFr_r [712, 713, 714, 715, 716, 717, 718, 719, 720, 721, 722, 723, 727, 728, 730, 731, 732, 733, 734, 735, 736, 737, 738] [0, 12, 13, 32, 33, 37, 38] _) (fr_marksPlan (b := m9) e9) (by first | decide | simp) (by decide)) (fr_runs_18 h) (fun _ z => z) (fun _ z => z)
theorem okp_runs {sh : gS} : ∀ (s : Nat × List Int × gM) (b : Int × gM), gWh (st_runs) s = some b → (∀ (x1 x2 x3 x4 x5 : Int) (M : gM), s = (0, [x1, x2, x3, x4, x5], M) → gOK sh M → gA (gr 10 232) yX12_runs cX12_runs 7 (some (.int)) (gPq sh (some (0, b.1)) b.2) (0, 0) 18 [(4, 711), (0, x1), (0, x2), (0, x3), (0, x4), (0, x5), (9, 0)] [] sh M) ∧ (∀ (x1 x2 x3 x4 x5 : Int) (M : gM), s = (1, [x1, x2, x3, x4, x5], M) → gOK sh M → gA (gr 10 232) yX12_runs cX12_runs 7 (some (.int)) (gPq sh (some (0, b.1)) b.2) (0, 0) 74 [(4, 711), (0, x1), (0, x2), (0, x3), (0, x4), (0, x5), (9, 0)] [] sh M) ∧ (∀ (x1 x2 x3 x4 x5 : Int) (M : gM), s = (2, [x1, x2, x3, x4, x5], M) → gOK sh M → gA (gr 10 232) yX12_runs cX12_runs 7 (some (.int)) (gPq sh (some (0, b.1)) b.2) (0, 0) 93 [(4, 711), (0, x1), (0, x2), (0, x3), (0, x4), (0, x5), (9, 0)] [] sh M) ∧ (∀ (x1 x2 x3 x4 x5 x6 : Int) (M : gM), s = (3, [x1, x2, x3, x4, x5, x6], M) → gOK sh M → gA (gr 10 232) yX12_runs cX12_runs 7 (some (.int)) (gPq sh (some (0, b.1)) b.2) (0, 0) 123 [(4, 711), (0, x1), (0, x2), (0, x3), (0, x4), (0, x5), (0, x6)] [] sh M) := by
  refine gWh_ind (fun k hk s b h => ⟨?_, ?_, ?_, ?_⟩)
  · rintro x1 x2 x3 x4 x5 M rfl hOK
    rw [sk_runs_18] at h
    refine g_iload (q0 := 20) (j := 5) rfl dX12_runs_18 rfl ?_
    refine g_iload_n (q0 := 21) (j := 2) rfl dX12_runs_20 rfl ?_
    refine g_icmp_ge (q0 := 24) (tgt := 74) rfl dX12_runs_21 (by decide) (fun h21 => ?_) (fun h21 => ?_)
    · replace h := gI_neg (Int.not_lt.mpr h21) h
      exact (hk _ _ h).2.1 _ _ _ _ _ _ rfl hOK
    · replace h := gI_pos h21 h
      refine g_iload (q0 := 26) (j := 4) rfl dX12_runs_24 rfl ?_
      refine g_if_eq (q0 := 29) (tgt := 74) rfl dX12_runs_26 (by decide) (fun h26 => ?_) (fun h26 => ?_)
      · replace h := gI_pos h26 h
        exact (hk _ _ h).2.1 _ _ _ _ _ _ rfl hOK
      · replace h := gI_neg h26 h
        refine g_aload_n (q0 := 30) (j := 0) rfl dX12_runs_29 rfl ?_
        refine g_getp (q0 := 33) (b := 736) rfl ff_X12_84 dX12_runs_30 rfl hOK (by decide) (sh_711 hOK) rfl (by decide) ?_
        refine g_iload (q0 := 35) (j := 5) rfl dX12_runs_33 rfl ?_
        obtain ⟨g1, h⟩ := gI_gd h
        refine g_zald (q0 := 36) rfl dX12_runs_35 (sh_736 hOK) g1.1 g1.2 ?_
        refine g_if_eq (q0 := 39) (tgt := 68) rfl dX12_runs_36 (by decide) (fun h36 => ?_) (fun h36 => ?_)
        · replace h := gI_pos h36 h
          refine g_iincw (q0 := 71) (lv2 := [_, _, _, _, _, _, _]) rfl dX12_runs_68 rfl (by decide) rfl rfl ?_
          refine g_goto (tgt := 18) dX12_runs_71 (by decide) ?_
          exact (hk _ _ h).1 _ _ _ _ _ _ rfl hOK
        · replace h := gI_neg h36 h
          refine g_aload_n (q0 := 40) (j := 0) rfl dX12_runs_39 rfl ?_
          refine g_getp (q0 := 43) (b := 730) rfl ff_X12_66 dX12_runs_40 rfl hOK (by decide) (sh_711 hOK) rfl (by decide) ?_
          refine g_bipush (q0 := 45) rfl dX12_runs_43 (k := ?_)
          refine g_iload_n (q0 := 46) (j := 1) rfl dX12_runs_45 rfl ?_
          refine g_imulw (q0 := 47) rfl dX12_runs_46 ?_
          refine g_iload (q0 := 49) (j := 5) rfl dX12_runs_47 rfl ?_
          refine g_iaddw (q0 := 50) rfl dX12_runs_49 ?_
          obtain ⟨g2, h⟩ := gI_gd h
          refine g_iald (q0 := 51) rfl dX12_runs_50 (sh_730 hOK) g2.1 g2.2 ?_
          refine g_iconst (q0 := 52) rfl dX12_runs_51 (k := ?_)
          refine g_icmp_ne (q0 := 55) (tgt := 68) rfl dX12_runs_52 (by decide) (fun h52 => ?_) (fun h52 => ?_)
          · replace h := gI_neg h52 h
            refine g_iincw (q0 := 71) (lv2 := [_, _, _, _, _, _, _]) rfl dX12_runs_68 rfl (by decide) rfl rfl ?_
            refine g_goto (tgt := 18) dX12_runs_71 (by decide) ?_
            exact (hk _ _ h).1 _ _ _ _ _ _ rfl hOK
          · replace h := gI_pos h52 h
            refine g_aload_n (q0 := 56) (j := 0) rfl dX12_runs_55 rfl ?_
            refine g_iload_n (q0 := 57) (j := 1) rfl dX12_runs_56 rfl ?_
            refine g_iload (q0 := 59) (j := 5) rfl dX12_runs_57 rfl ?_
            obtain ⟨p59, e59, h⟩ := gI_bd h
            refine g_callVq1 (as := [_, _]) (rest := []) mt_X12_rewrites mi_X12_rewrites se_X12_rewrites ml_X12_585 dX12_runs_59 (q0 := 62) rfl rfl (sh_711 hOK) rfl rfl (ok_rewrites hOK e59) rfl ⟨by decide, by decide⟩ (Nat.le_of_ble_eq_true rfl) ⟨Nat.zero_le _, Nat.zero_le _⟩ ?_
            have hOK3 : gOK sh p59.2 := gOK_fr hOK (fr_rewrites (b := p59) e59) (by first | decide | (intro a ha; simp only [List.mem_cons, List.not_mem_nil, or_false] at ha; omega)) (by decide)
            refine g_istore (q0 := 64) (j := 4) (lv2 := [_, _, _, _, _, _, _]) rfl dX12_runs_62 (by decide) rfl rfl ?_
            refine g_iload_n (q0 := 65) (j := 3) rfl dX12_runs_64 rfl ?_
            refine g_iconst (q0 := 66) rfl dX12_runs_65 (k := ?_)
            refine g_iaddw (q0 := 67) rfl dX12_runs_66 ?_
            refine g_istore_n (q0 := 68) (j := 3) (lv2 := [_, _, _, _, _, _, _]) rfl dX12_runs_67 (by decide) rfl rfl ?_
            refine g_iincw (q0 := 71) (lv2 := [_, _, _, _, _, _, _]) rfl dX12_runs_68 rfl (by decide) rfl rfl ?_
            refine g_goto (tgt := 18) dX12_runs_71 (by decide) ?_
            exact (hk _ _ h).1 _ _ _ _ _ _ rfl hOK3
  · rintro x1 x2 x3 x4 x5 M rfl hOK
    rw [sk_runs_74] at h
    refine g_iload (q0 := 76) (j := 4) rfl dX12_runs_74 rfl ?_
    refine g_if_eq (q0 := 79) (tgt := 93) rfl dX12_runs_76 (by decide) (fun h76 => ?_) (fun h76 => ?_)
    · replace h := gI_pos h76 h
      exact (hk _ _ h).2.2.1 _ _ _ _ _ _ rfl hOK
    · replace h := gI_neg h76 h
      refine g_aload_n (q0 := 80) (j := 0) rfl dX12_runs_79 rfl ?_
      refine g_iload_n (q0 := 81) (j := 1) rfl dX12_runs_80 rfl ?_
      obtain ⟨p81, e81, h⟩ := gI_bd h
      refine g_callVq1 (as := [_]) (rest := []) mt_X12_laysRefs mi_X12_laysRefs se_X12_laysRefs ml_X12_588 dX12_runs_81 (q0 := 84) rfl rfl (sh_711 hOK) rfl rfl (ok_laysRefs hOK e81) rfl ⟨by decide, by decide⟩ (Nat.le_of_ble_eq_true rfl) ⟨Nat.zero_le _, Nat.zero_le _⟩ ?_
      have hOK4 : gOK sh p81.2 := gOK_fr hOK (fr_laysRefs (b := p81) e81) (by first | decide | (intro a ha; simp only [List.mem_cons, List.not_mem_nil, or_false] at ha; omega)) (by decide)
      refine g_bipush (q0 := 86) rfl dX12_runs_84 (k := ?_)
      refine g_icmp_gt (q0 := 89) (tgt := 93) rfl dX12_runs_86 (by decide) (fun h86 => ?_) (fun h86 => ?_)
      · replace h := gI_pos h86 h
        exact (hk _ _ h).2.2.1 _ _ _ _ _ _ rfl hOK4
      · replace h := gI_neg (Int.not_lt.mpr h86) h
        refine g_iconst (q0 := 90) rfl dX12_runs_89 (k := ?_)
        refine g_goto (tgt := 94) dX12_runs_90 (by decide) ?_
        refine g_istore (q0 := 96) (j := 5) (lv2 := [_, _, _, _, _, _, _]) rfl dX12_runs_94 (by decide) rfl rfl ?_
        refine g_iload (q0 := 98) (j := 5) rfl dX12_runs_96 rfl ?_
        refine g_if_ne (q0 := 101) (tgt := 120) rfl dX12_runs_98 (by decide) (fun h98 => ?_) (fun h98 => ?_)
        · refine g_iconst (q0 := 121) rfl dX12_runs_120 (k := ?_)
          refine g_istore (q0 := 123) (j := 6) (lv2 := [_, _, _, _, _, _, _]) rfl dX12_runs_121 (by decide) rfl rfl ?_
          exact (hk _ _ h).2.2.2 _ _ _ _ _ _ _ rfl hOK4
        · exact absurd h98 (by decide)
  · rintro x1 x2 x3 x4 x5 M rfl hOK
    rw [sk_runs_93] at h
    refine g_iconst (q0 := 94) rfl dX12_runs_93 (k := ?_)
    refine g_istore (q0 := 96) (j := 5) (lv2 := [_, _, _, _, _, _, _]) rfl dX12_runs_94 (by decide) rfl rfl ?_
    refine g_iload (q0 := 98) (j := 5) rfl dX12_runs_96 rfl ?_
    refine g_if_ne (q0 := 101) (tgt := 120) rfl dX12_runs_98 (by decide) (fun h98 => ?_) (fun h98 => ?_)
    · exact absurd h98 (by decide)
    · refine g_aload_n (q0 := 102) (j := 0) rfl dX12_runs_101 rfl ?_
      refine g_iload_n (q0 := 103) (j := 1) rfl dX12_runs_102 rfl ?_
      refine g_iload_n (q0 := 104) (j := 2) rfl dX12_runs_103 rfl ?_
      obtain ⟨m104, e104, h⟩ := gI_bd h
      refine g_callVq0 (as := [_, _]) (rest := []) mt_X12_goesBack mi_X12_goesBack se_X12_goesBack ml_X12_591 dX12_runs_104 (q0 := 107) rfl rfl (sh_711 hOK) rfl rfl (ok_goesBack hOK e104) rfl ⟨by decide, by decide⟩ (Nat.le_of_ble_eq_true rfl) ⟨Nat.zero_le _, Nat.zero_le _⟩ ?_
      have hOK5 : gOK sh m104 := gOK_fr hOK (fr_goesBack (b := m104) e104) (by first | decide | (intro a ha; simp only [List.mem_cons, List.not_mem_nil, or_false] at ha; omega)) (by decide)
      refine g_iload (q0 := 109) (j := 4) rfl dX12_runs_107 rfl ?_
      refine g_if_eq (q0 := 112) (tgt := 117) rfl dX12_runs_109 (by decide) (fun h109 => ?_) (fun h109 => ?_)
      · replace h := gI_pos h109 h
        refine g_bipush (q0 := 119) rfl dX12_runs_117 (k := ?_)
        rw [← Option.some.inj h]
        refine g_ireturn dX12_runs_119 rfl ⟨Nat.zero_le _, Nat.zero_le _⟩ ?_
        exact ⟨rfl, rfl, rfl⟩
      · replace h := gI_neg h109 h
        refine g_bipush (q0 := 114) rfl dX12_runs_112 (k := ?_)
        refine g_goto (tgt := 119) dX12_runs_114 (by decide) ?_
        rw [← Option.some.inj h]
        refine g_ireturn dX12_runs_119 rfl ⟨Nat.zero_le _, Nat.zero_le _⟩ ?_
        exact ⟨rfl, rfl, rfl⟩
  · rintro x1 x2 x3 x4 x5 x6 M rfl hOK
    rw [sk_runs_123] at h
    refine g_iload (q0 := 125) (j := 6) rfl dX12_runs_123 rfl ?_
    refine g_bipush (q0 := 127) rfl dX12_runs_125 (k := ?_)
    refine g_icmp_ge (q0 := 130) (tgt := 162) rfl dX12_runs_127 (by decide) (fun h127 => ?_) (fun h127 => ?_)
    · replace h := gI_neg (Int.not_lt.mpr h127) h
      refine g_iload_n (q0 := 163) (j := 3) rfl dX12_runs_162 rfl ?_
      rw [← Option.some.inj h]
      refine g_ireturn dX12_runs_163 rfl ⟨Nat.zero_le _, Nat.zero_le _⟩ ?_
      exact ⟨rfl, rfl, rfl⟩
    · replace h := gI_pos h127 h
      refine g_aload_n (q0 := 131) (j := 0) rfl dX12_runs_130 rfl ?_
      refine g_aload_n (q0 := 132) (j := 0) rfl dX12_runs_131 rfl ?_
      refine g_iload_n (q0 := 133) (j := 1) rfl dX12_runs_132 rfl ?_
      refine g_iconst (q0 := 134) rfl dX12_runs_133 (k := ?_)
      obtain ⟨r134, e134, h⟩ := gI_bd h
      refine g_callVq1 (as := [_, _]) (rest := [_]) mt_X12_ofPlan mi_X12_ofPlan se_X12_ofPlan ml_X12_452 dX12_runs_134 (q0 := 137) rfl rfl (sh_711 hOK) rfl rfl (ok_ofPlan hOK e134) rfl ⟨by decide, by decide⟩ (Nat.le_of_ble_eq_true rfl) ⟨Nat.zero_le _, Nat.zero_le _⟩ ?_
      refine g_iload (q0 := 139) (j := 6) rfl dX12_runs_137 rfl ?_
      refine g_aload_n (q0 := 140) (j := 0) rfl dX12_runs_139 rfl ?_
      refine g_getp (q0 := 143) (b := 737) rfl ff_X12_87 dX12_runs_140 rfl hOK (by decide) (sh_711 hOK) rfl (by decide) ?_
      refine g_iload (q0 := 145) (j := 6) rfl dX12_runs_143 rfl ?_
      obtain ⟨g6, h⟩ := gI_gd h
      refine g_iald (q0 := 146) rfl dX12_runs_145 (sh_737 hOK) g6.1 g6.2 ?_
      refine g_aload_n (q0 := 147) (j := 0) rfl dX12_runs_146 rfl ?_
      refine g_getp (q0 := 150) (b := 738) rfl ff_X12_90 dX12_runs_147 rfl hOK (by decide) (sh_711 hOK) rfl (by decide) ?_
      refine g_iload (q0 := 152) (j := 6) rfl dX12_runs_150 rfl ?_
      refine g_iald (q0 := 153) rfl dX12_runs_152 (sh_738 hOK) g6.1 g6.2 ?_
      obtain ⟨m153, e153, h⟩ := gI_bd h
      refine g_callVq0 (as := [_, _, _, _]) (rest := []) mt_X12_laysRef mi_X12_laysRef se_X12_laysRef ml_X12_359 dX12_runs_153 (q0 := 156) rfl rfl (sh_711 hOK) rfl rfl (ok_laysRef hOK e153) rfl ⟨by decide, by decide⟩ (Nat.le_of_ble_eq_true rfl) ⟨Nat.zero_le _, Nat.zero_le _⟩ ?_
      have hOK7 : gOK sh m153 := gOK_fr hOK (fr_laysRef (b := m153) e153) (by first | decide | (intro a ha; simp only [List.mem_cons, List.not_mem_nil, or_false] at ha; omega)) (by decide)
      refine g_iincw (q0 := 159) (lv2 := [_, _, _, _, _, _, _]) rfl dX12_runs_156 rfl (by decide) rfl rfl ?_
      refine g_goto (tgt := 123) dX12_runs_159 (by decide) ?_
      exact (hk _ _ h).2.2.2 _ _ _ _ _ _ _ rfl hOK7
theorem ok_runs_18 {sh : gS} {M : gM} {x1 x2 x3 x4 x5 : Int} {b : Int × gM} (hOK : gOK sh M) (h : F_runs_18 M x1 x2 x3 x4 x5 = some b) : gA (gr 10 232) yX12_runs cX12_runs 7 (some (.int)) (gPq sh (some (0, b.1)) b.2) (0, 0) 18 [(4, 711), (0, x1), (0, x2), (0, x3), (0, x4), (0, x5), (9, 0)] [] sh M :=
  (okp_runs _ _ h).1 _ _ _ _ _ _ rfl hOK
theorem ok_runs_74 {sh : gS} {M : gM} {x1 x2 x3 x4 x5 : Int} {b : Int × gM} (hOK : gOK sh M) (h : F_runs_74 M x1 x2 x3 x4 x5 = some b) : gA (gr 10 232) yX12_runs cX12_runs 7 (some (.int)) (gPq sh (some (0, b.1)) b.2) (0, 0) 74 [(4, 711), (0, x1), (0, x2), (0, x3), (0, x4), (0, x5), (9, 0)] [] sh M :=
  (okp_runs _ _ h).2.1 _ _ _ _ _ _ rfl hOK
theorem ok_runs_93 {sh : gS} {M : gM} {x1 x2 x3 x4 x5 : Int} {b : Int × gM} (hOK : gOK sh M) (h : F_runs_93 M x1 x2 x3 x4 x5 = some b) : gA (gr 10 232) yX12_runs cX12_runs 7 (some (.int)) (gPq sh (some (0, b.1)) b.2) (0, 0) 93 [(4, 711), (0, x1), (0, x2), (0, x3), (0, x4), (0, x5), (9, 0)] [] sh M :=
  (okp_runs _ _ h).2.2.1 _ _ _ _ _ _ rfl hOK
theorem ok_runs_123 {sh : gS} {M : gM} {x1 x2 x3 x4 x5 x6 : Int} {b : Int × gM} (hOK : gOK sh M) (h : F_runs_123 M x1 x2 x3 x4 x5 x6 = some b) : gA (gr 10 232) yX12_runs cX12_runs 7 (some (.int)) (gPq sh (some (0, b.1)) b.2) (0, 0) 123 [(4, 711), (0, x1), (0, x2), (0, x3), (0, x4), (0, x5), (0, x6)] [] sh M :=
  (okp_runs _ _ h).2.2.2 _ _ _ _ _ _ _ rfl hOK
theorem ok_runs {sh : gS} {M : gM} {a1 : Int} {b : Int × gM} (hOK : gOK sh M) (h : F_runs M a1 = some b) : gC (gr 10 232) yX12_runs cX12_runs 7 (some (.int)) [(4, 711), (0, a1)] sh M (gPq sh (some (0, b.1)) b.2) := by
  rw [eq_runs] at h
  refine gC_ofA (lv := [_, _, _, _, _, _, _]) (by decide +kernel) (Nat.le_of_ble_eq_true rfl) rfl (fun hMw hav => ?_)
  refine g_aload_n (q0 := 1) (j := 0) rfl dX12_runs_0 rfl ?_
  refine g_getf (q0 := 4) (t := 0) (fi := 0) rfl rfl ff_X12_178 dX12_runs_1 rfl (sh_711 hOK) ?_
  refine g_istore_n (q0 := 5) (j := 2) (lv2 := [_, _, _, _, _, _, _]) rfl dX12_runs_4 (by decide) rfl rfl ?_
  refine g_iconst (q0 := 6) rfl dX12_runs_5 (k := ?_)
  refine g_istore_n (q0 := 7) (j := 3) (lv2 := [_, _, _, _, _, _, _]) rfl dX12_runs_6 (by decide) rfl rfl ?_
  refine g_aload_n (q0 := 8) (j := 0) rfl dX12_runs_7 rfl ?_
  refine g_iload_n (q0 := 9) (j := 1) rfl dX12_runs_8 rfl ?_
  obtain ⟨m9, e9, h⟩ := gI_bd h
  refine g_callVq0 (as := [_]) (rest := []) mt_X12_marksPlan mi_X12_marksPlan se_X12_marksPlan ml_X12_582 dX12_runs_9 (q0 := 12) rfl rfl (sh_711 hOK) rfl rfl (ok_marksPlan hOK e9) rfl ⟨by decide, by decide⟩ (Nat.le_of_ble_eq_true rfl) ⟨Nat.zero_le _, Nat.zero_le _⟩ ?_
  have hOK8 : gOK sh m9 := gOK_fr hOK (fr_marksPlan (b := m9) e9) (by first | decide | (intro a ha; simp only [List.mem_cons, List.not_mem_nil, or_false] at ha; omega)) (by decide)
  refine g_iconst (q0 := 13) rfl dX12_runs_12 (k := ?_)
  refine g_istore (q0 := 15) (j := 4) (lv2 := [_, _, _, _, _, _, _]) rfl dX12_runs_13 (by decide) rfl rfl ?_
  refine g_iconst (q0 := 16) rfl dX12_runs_15 (k := ?_)
  refine g_istore (q0 := 18) (j := 5) (lv2 := [_, _, _, _, _, _, _]) rfl dX12_runs_16 (by decide) rfl rfl ?_
  exact ok_runs_18 hOK8 h
-- ==== run
theorem dX12_run_0 : decode cX12_run 0 = .ok (.iload_n 1, 1) := by decide +kernel
theorem dX12_run_1 : decode cX12_run 1 = .ok (.invokestatic 433, 3) := by decide +kernel
theorem dX12_run_4 : decode cX12_run 4 = .ok (.ifCond .ne 5, 3) := by decide +kernel
theorem dX12_run_7 : decode cX12_run 7 = .ok (.iconst (-1), 1) := by decide +kernel
theorem dX12_run_8 : decode cX12_run 8 = .ok (.ireturn, 1) := by decide +kernel
theorem dX12_run_9 : decode cX12_run 9 = .ok (.aload_n 0, 1) := by decide +kernel
theorem dX12_run_10 : decode cX12_run 10 = .ok (.iload_n 1, 1) := by decide +kernel
theorem dX12_run_11 : decode cX12_run 11 = .ok (.invokevirtual 449, 3) := by decide +kernel
theorem dX12_run_14 : decode cX12_run 14 = .ok (.ifCond .ne 6, 3) := by decide +kernel
theorem dX12_run_17 : decode cX12_run 17 = .ok (.bipush (-2), 2) := by decide +kernel
theorem dX12_run_19 : decode cX12_run 19 = .ok (.ireturn, 1) := by decide +kernel
theorem dX12_run_20 : decode cX12_run 20 = .ok (.aload_n 0, 1) := by decide +kernel
theorem dX12_run_21 : decode cX12_run 21 = .ok (.iload_n 1, 1) := by decide +kernel
theorem dX12_run_22 : decode cX12_run 22 = .ok (.invokevirtual 594, 3) := by decide +kernel
theorem dX12_run_25 : decode cX12_run 25 = .ok (.aload_n 0, 1) := by decide +kernel
theorem dX12_run_26 : decode cX12_run 26 = .ok (.iload_n 1, 1) := by decide +kernel
theorem dX12_run_27 : decode cX12_run 27 = .ok (.invokevirtual 597, 3) := by decide +kernel
theorem dX12_run_30 : decode cX12_run 30 = .ok (.ireturn, 1) := by decide +kernel
noncomputable def F_run (M : gM) (a1 : Int) : Option (Int × gM) := (Option.bind (F_isPlan a1) (fun r1 =>
    (if r1 = 0 then
      some (-1, M)
    else
      (Option.bind (F_isToldPlan M a1) (fun r11 =>
        (if r11 = 0 then
          some (-2, M)
        else
          (Option.bind (F_remembers M a1) (fun m22 =>
            (Option.bind (F_runs m22 a1) (fun p27 =>
              some (p27.1, p27.2)))))))))))
theorem eq_run (M : gM) (a1 : Int) : F_run M a1 = (Option.bind (F_isPlan a1) (fun r1 =>
    (if r1 = 0 then
      some (-1, M)
    else
      (Option.bind (F_isToldPlan M a1) (fun r11 =>
        (if r11 = 0 then
          some (-2, M)
        else
          (Option.bind (F_remembers M a1) (fun m22 =>
            (Option.bind (F_runs m22 a1) (fun p27 =>
              some (p27.1, p27.2))))))))))) := rfl
theorem fr_run {M : gM} {a1 : Int} {b : Int × gM} (h : F_run M a1 = some b) : gFr [712, 713, 714, 715, 716, 717, 718, 719, 720, 721, 722, 723, 727, 728, 730, 731, 732, 733, 734, 735, 736, 737, 738, 739, 740] [0, 12, 13, 32, 33, 37, 38] M b.2 := by
  rw [eq_run] at h
  obtain ⟨r1, e1, h⟩ := gI_bd h
  rcases gI_or h with h | h
  · rw [← Option.some.inj h]
    exact (gFr_r [712, 713, 714, 715, 716, 717, 718, 719, 720, 721, 722, 723, 727, 728, 730, 731, 732, 733, 734, 735, 736, 737, 738, 739, 740] [0, 12, 13, 32, 33, 37, 38] _)
  · obtain ⟨r11, e11, h⟩ := gI_bd h
    rcases gI_or h with h | h
    · rw [← Option.some.inj h]
      exact (gFr_r [712, 713, 714, 715, 716, 717, 718, 719, 720, 721, 722, 723, 727, 728, 730, 731, 732, 733, 734, 735, 736, 737, 738, 739, 740] [0, 12, 13, 32, 33, 37, 38] _)
    · obtain ⟨m22, e22, h⟩ := gI_bd h
      obtain ⟨p27, e27, h⟩ := gI_bd h
      rw [← Option.some.inj h]
      exact (gFr_t (gFr_t (gFr_r [712, 713, 714, 715, 716, 717, 718, 719, 720, 721, 722, 723, 727, 728, 730, 731, 732, 733, 734, 735, 736, 737, 738, 739, 740] [0, 12, 13, 32, 33, 37, 38] _) (fr_remembers (b := m22) e22) (by first | decide | simp) (by decide)) (fr_runs (b := p27) e27) (by first | decide | simp) (by decide))
theorem ok_run {sh : gS} {M : gM} {a1 : Int} {b : Int × gM} (hOK : gOK sh M) (h : F_run M a1 = some b) : gC (gr 11 258) yX12_run cX12_run 2 (some (.int)) [(4, 711), (0, a1)] sh M (gPq sh (some (0, b.1)) b.2) := by
  rw [eq_run] at h
  refine gC_ofA (lv := [_, _]) (by decide +kernel) (Nat.le_of_ble_eq_true rfl) rfl (fun hMw hav => ?_)
  refine g_iload_n (q0 := 1) (j := 1) rfl dX12_run_0 rfl ?_
  obtain ⟨r1, e1, h⟩ := gI_bd h
  refine g_callSq1 (as := [_]) (rest := []) mt_X12_isPlan ms_X12_isPlan ml_X12_433 dX12_run_1 (q0 := 4) rfl rfl (ok_isPlan hOK e1) rfl ⟨by decide, by decide⟩ (Nat.le_of_ble_eq_true rfl) ⟨Nat.zero_le _, Nat.zero_le _⟩ ?_
  refine g_if_ne (q0 := 7) (tgt := 9) rfl dX12_run_4 (by decide) (fun h4 => ?_) (fun h4 => ?_)
  · replace h := gI_neg h4 h
    refine g_aload_n (q0 := 10) (j := 0) rfl dX12_run_9 rfl ?_
    refine g_iload_n (q0 := 11) (j := 1) rfl dX12_run_10 rfl ?_
    obtain ⟨r11, e11, h⟩ := gI_bd h
    refine g_callVq1 (as := [_]) (rest := []) mt_X12_isToldPlan mi_X12_isToldPlan se_X12_isToldPlan ml_X12_449 dX12_run_11 (q0 := 14) rfl rfl (sh_711 hOK) rfl rfl (ok_isToldPlan hOK e11) rfl ⟨by decide, by decide⟩ (Nat.le_of_ble_eq_true rfl) ⟨Nat.zero_le _, Nat.zero_le _⟩ ?_
    refine g_if_ne (q0 := 17) (tgt := 20) rfl dX12_run_14 (by decide) (fun h14 => ?_) (fun h14 => ?_)
    · replace h := gI_neg h14 h
      refine g_aload_n (q0 := 21) (j := 0) rfl dX12_run_20 rfl ?_
      refine g_iload_n (q0 := 22) (j := 1) rfl dX12_run_21 rfl ?_
      obtain ⟨m22, e22, h⟩ := gI_bd h
      refine g_callVq0 (as := [_]) (rest := []) mt_X12_remembers mi_X12_remembers se_X12_remembers ml_X12_594 dX12_run_22 (q0 := 25) rfl rfl (sh_711 hOK) rfl rfl (ok_remembers hOK e22) rfl ⟨by decide, by decide⟩ (Nat.le_of_ble_eq_true rfl) ⟨Nat.zero_le _, Nat.zero_le _⟩ ?_
      have hOK1 : gOK sh m22 := gOK_fr hOK (fr_remembers (b := m22) e22) (by first | decide | (intro a ha; simp only [List.mem_cons, List.not_mem_nil, or_false] at ha; omega)) (by decide)
      refine g_aload_n (q0 := 26) (j := 0) rfl dX12_run_25 rfl ?_
      refine g_iload_n (q0 := 27) (j := 1) rfl dX12_run_26 rfl ?_
      obtain ⟨p27, e27, h⟩ := gI_bd h
      refine g_callVq1 (as := [_]) (rest := []) mt_X12_runs mi_X12_runs se_X12_runs ml_X12_597 dX12_run_27 (q0 := 30) rfl rfl (sh_711 hOK1) rfl rfl (ok_runs hOK1 e27) rfl ⟨by decide, by decide⟩ (Nat.le_of_ble_eq_true rfl) ⟨Nat.zero_le _, Nat.zero_le _⟩ ?_
      have hOK2 : gOK sh p27.2 := gOK_fr hOK1 (fr_runs (b := p27) e27) (by first | decide | (intro a ha; simp only [List.mem_cons, List.not_mem_nil, or_false] at ha; omega)) (by decide)
      rw [← Option.some.inj h]
      refine g_ireturn dX12_run_30 rfl ⟨Nat.zero_le _, Nat.zero_le _⟩ ?_
      exact ⟨rfl, rfl, rfl⟩
    · replace h := gI_pos h14 h
      refine g_bipush (q0 := 19) rfl dX12_run_17 (k := ?_)
      rw [← Option.some.inj h]
      refine g_ireturn dX12_run_19 rfl ⟨Nat.zero_le _, Nat.zero_le _⟩ ?_
      exact ⟨rfl, rfl, rfl⟩
  · replace h := gI_pos h4 h
    refine g_iconst (q0 := 8) rfl dX12_run_7 (k := ?_)
    rw [← Option.some.inj h]
    refine g_ireturn dX12_run_8 rfl ⟨Nat.zero_le _, Nat.zero_le _⟩ ?_
    exact ⟨rfl, rfl, rfl⟩
-- ==== again
theorem dX12_again_0 : decode cX12_again 0 = .ok (.iload_n 1, 1) := by decide +kernel
theorem dX12_again_1 : decode cX12_again 1 = .ok (.invokestatic 433, 3) := by decide +kernel
theorem dX12_again_4 : decode cX12_again 4 = .ok (.ifCond .ne 5, 3) := by decide +kernel
theorem dX12_again_7 : decode cX12_again 7 = .ok (.iconst (-1), 1) := by decide +kernel
theorem dX12_again_8 : decode cX12_again 8 = .ok (.ireturn, 1) := by decide +kernel
theorem dX12_again_9 : decode cX12_again 9 = .ok (.aload_n 0, 1) := by decide +kernel
theorem dX12_again_10 : decode cX12_again 10 = .ok (.iload_n 1, 1) := by decide +kernel
theorem dX12_again_11 : decode cX12_again 11 = .ok (.invokevirtual 449, 3) := by decide +kernel
theorem dX12_again_14 : decode cX12_again 14 = .ok (.ifCond .ne 6, 3) := by decide +kernel
theorem dX12_again_17 : decode cX12_again 17 = .ok (.bipush (-2), 2) := by decide +kernel
theorem dX12_again_19 : decode cX12_again 19 = .ok (.ireturn, 1) := by decide +kernel
theorem dX12_again_20 : decode cX12_again 20 = .ok (.aload_n 0, 1) := by decide +kernel
theorem dX12_again_21 : decode cX12_again 21 = .ok (.getfield 178, 3) := by decide +kernel
theorem dX12_again_24 : decode cX12_again 24 = .ok (.istore_n 2, 1) := by decide +kernel
theorem dX12_again_25 : decode cX12_again 25 = .ok (.aload_n 0, 1) := by decide +kernel
theorem dX12_again_26 : decode cX12_again 26 = .ok (.iload_n 1, 1) := by decide +kernel
theorem dX12_again_27 : decode cX12_again 27 = .ok (.invokevirtual 594, 3) := by decide +kernel
theorem dX12_again_30 : decode cX12_again 30 = .ok (.aload_n 0, 1) := by decide +kernel
theorem dX12_again_31 : decode cX12_again 31 = .ok (.iload_n 1, 1) := by decide +kernel
theorem dX12_again_32 : decode cX12_again 32 = .ok (.invokevirtual 446, 3) := by decide +kernel
theorem dX12_again_35 : decode cX12_again 35 = .ok (.aload_n 0, 1) := by decide +kernel
theorem dX12_again_36 : decode cX12_again 36 = .ok (.iload_n 1, 1) := by decide +kernel
theorem dX12_again_37 : decode cX12_again 37 = .ok (.invokevirtual 597, 3) := by decide +kernel
theorem dX12_again_40 : decode cX12_again 40 = .ok (.istore_n 3, 1) := by decide +kernel
theorem dX12_again_41 : decode cX12_again 41 = .ok (.iload_n 3, 1) := by decide +kernel
theorem dX12_again_42 : decode cX12_again 42 = .ok (.ifCond .ge 7, 3) := by decide +kernel
theorem dX12_again_45 : decode cX12_again 45 = .ok (.iload_n 3, 1) := by decide +kernel
theorem dX12_again_46 : decode cX12_again 46 = .ok (.goto 9, 3) := by decide +kernel
theorem dX12_again_49 : decode cX12_again 49 = .ok (.aload_n 0, 1) := by decide +kernel
theorem dX12_again_50 : decode cX12_again 50 = .ok (.getfield 178, 3) := by decide +kernel
theorem dX12_again_53 : decode cX12_again 53 = .ok (.iload_n 2, 1) := by decide +kernel
theorem dX12_again_54 : decode cX12_again 54 = .ok (.isub, 1) := by decide +kernel
theorem dX12_again_55 : decode cX12_again 55 = .ok (.ireturn, 1) := by decide +kernel
noncomputable def F_again (M : gM) (a1 : Int) : Option (Int × gM) := (Option.bind (F_isPlan a1) (fun r1 =>
    (if r1 = 0 then
      some (-1, M)
    else
      (Option.bind (F_isToldPlan M a1) (fun r11 =>
        (if r11 = 0 then
          some (-2, M)
        else
          (Option.bind (F_remembers M a1) (fun m27 =>
            (Option.bind (F_forgets m27 a1) (fun m32 =>
              (Option.bind (F_runs m32 a1) (fun p37 =>
                (if p37.1 < 0 then
                  some (p37.1, p37.2)
                else
                  some ((gw32 ((p37.2 711 0) - (M 711 0))), p37.2))))))))))))))
theorem eq_again (M : gM) (a1 : Int) : F_again M a1 = (Option.bind (F_isPlan a1) (fun r1 =>
    (if r1 = 0 then
      some (-1, M)
    else
      (Option.bind (F_isToldPlan M a1) (fun r11 =>
        (if r11 = 0 then
          some (-2, M)
        else
          (Option.bind (F_remembers M a1) (fun m27 =>
            (Option.bind (F_forgets m27 a1) (fun m32 =>
              (Option.bind (F_runs m32 a1) (fun p37 =>
                (if p37.1 < 0 then
                  some (p37.1, p37.2)
                else
                  some ((gw32 ((p37.2 711 0) - (M 711 0))), p37.2)))))))))))))) := rfl
theorem fr_again {M : gM} {a1 : Int} {b : Int × gM} (h : F_again M a1 = some b) : gFr [712, 713, 714, 715, 716, 717, 718, 719, 720, 721, 722, 723, 727, 728, 730, 731, 732, 733, 734, 735, 736, 737, 738, 739, 740] [0, 12, 13, 32, 33, 37, 38] M b.2 := by
  rw [eq_again] at h
  obtain ⟨r1, e1, h⟩ := gI_bd h
  rcases gI_or h with h | h
  · rw [← Option.some.inj h]
    exact (gFr_r [712, 713, 714, 715, 716, 717, 718, 719, 720, 721, 722, 723, 727, 728, 730, 731, 732, 733, 734, 735, 736, 737, 738, 739, 740] [0, 12, 13, 32, 33, 37, 38] _)
  · obtain ⟨r11, e11, h⟩ := gI_bd h
    rcases gI_or h with h | h
    · rw [← Option.some.inj h]
      exact (gFr_r [712, 713, 714, 715, 716, 717, 718, 719, 720, 721, 722, 723, 727, 728, 730, 731, 732, 733, 734, 735, 736, 737, 738, 739, 740] [0, 12, 13, 32, 33, 37, 38] _)
    · obtain ⟨m27, e27, h⟩ := gI_bd h
      obtain ⟨m32, e32, h⟩ := gI_bd h
      obtain ⟨p37, e37, h⟩ := gI_bd h
      rcases gI_or h with h | h
      · rw [← Option.some.inj h]
        exact (gFr_t (gFr_t (gFr_t (gFr_r [712, 713, 714, 715, 716, 717, 718, 719, 720, 721, 722, 723, 727, 728, 730, 731, 732, 733, 734, 735, 736, 737, 738, 739, 740] [0, 12, 13, 32, 33, 37, 38] _) (fr_remembers (b := m27) e27) (by first | decide | simp) (by decide)) (fr_forgets (b := m32) e32) (by first | decide | simp) (by decide)) (fr_runs (b := p37) e37) (by first | decide | simp) (by decide))
      · rw [← Option.some.inj h]
        exact (gFr_t (gFr_t (gFr_t (gFr_r [712, 713, 714, 715, 716, 717, 718, 719, 720, 721, 722, 723, 727, 728, 730, 731, 732, 733, 734, 735, 736, 737, 738, 739, 740] [0, 12, 13, 32, 33, 37, 38] _) (fr_remembers (b := m27) e27) (by first | decide | simp) (by decide)) (fr_forgets (b := m32) e32) (by first | decide | simp) (by decide)) (fr_runs (b := p37) e37) (by first | decide | simp) (by decide))
theorem ok_again {sh : gS} {M : gM} {a1 : Int} {b : Int × gM} (hOK : gOK sh M) (h : F_again M a1 = some b) : gC (gr 11 258) yX12_again cX12_again 4 (some (.int)) [(4, 711), (0, a1)] sh M (gPq sh (some (0, b.1)) b.2) := by
  rw [eq_again] at h
  refine gC_ofA (lv := [_, _, _, _]) (by decide +kernel) (Nat.le_of_ble_eq_true rfl) rfl (fun hMw hav => ?_)
  refine g_iload_n (q0 := 1) (j := 1) rfl dX12_again_0 rfl ?_
  obtain ⟨r1, e1, h⟩ := gI_bd h
  refine g_callSq1 (as := [_]) (rest := []) mt_X12_isPlan ms_X12_isPlan ml_X12_433 dX12_again_1 (q0 := 4) rfl rfl (ok_isPlan hOK e1) rfl ⟨by decide, by decide⟩ (Nat.le_of_ble_eq_true rfl) ⟨Nat.zero_le _, Nat.zero_le _⟩ ?_
  refine g_if_ne (q0 := 7) (tgt := 9) rfl dX12_again_4 (by decide) (fun h4 => ?_) (fun h4 => ?_)
  · replace h := gI_neg h4 h
    refine g_aload_n (q0 := 10) (j := 0) rfl dX12_again_9 rfl ?_
    refine g_iload_n (q0 := 11) (j := 1) rfl dX12_again_10 rfl ?_
    obtain ⟨r11, e11, h⟩ := gI_bd h
    refine g_callVq1 (as := [_]) (rest := []) mt_X12_isToldPlan mi_X12_isToldPlan se_X12_isToldPlan ml_X12_449 dX12_again_11 (q0 := 14) rfl rfl (sh_711 hOK) rfl rfl (ok_isToldPlan hOK e11) rfl ⟨by decide, by decide⟩ (Nat.le_of_ble_eq_true rfl) ⟨Nat.zero_le _, Nat.zero_le _⟩ ?_
    refine g_if_ne (q0 := 17) (tgt := 20) rfl dX12_again_14 (by decide) (fun h14 => ?_) (fun h14 => ?_)
    · replace h := gI_neg h14 h
      refine g_aload_n (q0 := 21) (j := 0) rfl dX12_again_20 rfl ?_
      refine g_getf (q0 := 24) (t := 0) (fi := 0) rfl rfl ff_X12_178 dX12_again_21 rfl (sh_711 hOK) ?_
      refine g_istore_n (q0 := 25) (j := 2) (lv2 := [_, _, _, _]) rfl dX12_again_24 (by decide) rfl rfl ?_
      refine g_aload_n (q0 := 26) (j := 0) rfl dX12_again_25 rfl ?_
      refine g_iload_n (q0 := 27) (j := 1) rfl dX12_again_26 rfl ?_
      obtain ⟨m27, e27, h⟩ := gI_bd h
      refine g_callVq0 (as := [_]) (rest := []) mt_X12_remembers mi_X12_remembers se_X12_remembers ml_X12_594 dX12_again_27 (q0 := 30) rfl rfl (sh_711 hOK) rfl rfl (ok_remembers hOK e27) rfl ⟨by decide, by decide⟩ (Nat.le_of_ble_eq_true rfl) ⟨Nat.zero_le _, Nat.zero_le _⟩ ?_
      have hOK1 : gOK sh m27 := gOK_fr hOK (fr_remembers (b := m27) e27) (by first | decide | (intro a ha; simp only [List.mem_cons, List.not_mem_nil, or_false] at ha; omega)) (by decide)
      refine g_aload_n (q0 := 31) (j := 0) rfl dX12_again_30 rfl ?_
      refine g_iload_n (q0 := 32) (j := 1) rfl dX12_again_31 rfl ?_
      obtain ⟨m32, e32, h⟩ := gI_bd h
      refine g_callVq0 (as := [_]) (rest := []) mt_X12_forgets mi_X12_forgets se_X12_forgets ml_X12_446 dX12_again_32 (q0 := 35) rfl rfl (sh_711 hOK1) rfl rfl (ok_forgets hOK1 e32) rfl ⟨by decide, by decide⟩ (Nat.le_of_ble_eq_true rfl) ⟨Nat.zero_le _, Nat.zero_le _⟩ ?_
      have hOK2 : gOK sh m32 := gOK_fr hOK1 (fr_forgets (b := m32) e32) (by first | decide | (intro a ha; simp only [List.mem_cons, List.not_mem_nil, or_false] at ha; omega)) (by decide)
      refine g_aload_n (q0 := 36) (j := 0) rfl dX12_again_35 rfl ?_
      refine g_iload_n (q0 := 37) (j := 1) rfl dX12_again_36 rfl ?_
      obtain ⟨p37, e37, h⟩ := gI_bd h
      refine g_callVq1 (as := [_]) (rest := []) mt_X12_runs mi_X12_runs se_X12_runs ml_X12_597 dX12_again_37 (q0 := 40) rfl rfl (sh_711 hOK2) rfl rfl (ok_runs hOK2 e37) rfl ⟨by decide, by decide⟩ (Nat.le_of_ble_eq_true rfl) ⟨Nat.zero_le _, Nat.zero_le _⟩ ?_
      have hOK3 : gOK sh p37.2 := gOK_fr hOK2 (fr_runs (b := p37) e37) (by first | decide | (intro a ha; simp only [List.mem_cons, List.not_mem_nil, or_false] at ha; omega)) (by decide)
      refine g_istore_n (q0 := 41) (j := 3) (lv2 := [_, _, _, _]) rfl dX12_again_40 (by decide) rfl rfl ?_
      refine g_iload_n (q0 := 42) (j := 3) rfl dX12_again_41 rfl ?_
      refine g_if_ge (q0 := 45) (tgt := 49) rfl dX12_again_42 (by decide) (fun h42 => ?_) (fun h42 => ?_)
      · replace h := gI_neg (Int.not_lt.mpr h42) h
        refine g_aload_n (q0 := 50) (j := 0) rfl dX12_again_49 rfl ?_
        refine g_getf (q0 := 53) (t := 0) (fi := 0) rfl rfl ff_X12_178 dX12_again_50 rfl (sh_711 hOK3) ?_
        refine g_iload_n (q0 := 54) (j := 2) rfl dX12_again_53 rfl ?_
        refine g_isubw (q0 := 55) rfl dX12_again_54 ?_
        rw [← Option.some.inj h]
        refine g_ireturn dX12_again_55 rfl ⟨Nat.zero_le _, Nat.zero_le _⟩ ?_
        exact ⟨rfl, rfl, rfl⟩
      · replace h := gI_pos h42 h
        refine g_iload_n (q0 := 46) (j := 3) rfl dX12_again_45 rfl ?_
        refine g_goto (tgt := 55) dX12_again_46 (by decide) ?_
        rw [← Option.some.inj h]
        refine g_ireturn dX12_again_55 rfl ⟨Nat.zero_le _, Nat.zero_le _⟩ ?_
        exact ⟨rfl, rfl, rfl⟩
    · replace h := gI_pos h14 h
      refine g_bipush (q0 := 19) rfl dX12_again_17 (k := ?_)
      rw [← Option.some.inj h]
      refine g_ireturn dX12_again_19 rfl ⟨Nat.zero_le _, Nat.zero_le _⟩ ?_
      exact ⟨rfl, rfl, rfl⟩
  · replace h := gI_pos h4 h
    refine g_iconst (q0 := 8) rfl dX12_again_7 (k := ?_)
    rw [← Option.some.inj h]
    refine g_ireturn dX12_again_8 rfl ⟨Nat.zero_le _, Nat.zero_le _⟩ ?_
    exact ⟨rfl, rfl, rfl⟩
-- ==== image
theorem dX12_image_0 : decode cX12_image 0 = .ok (.iload_n 1, 1) := by decide +kernel
theorem dX12_image_1 : decode cX12_image 1 = .ok (.invokestatic 433, 3) := by decide +kernel
theorem dX12_image_4 : decode cX12_image 4 = .ok (.ifCond .eq 20, 3) := by decide +kernel
theorem dX12_image_7 : decode cX12_image 7 = .ok (.aload_n 0, 1) := by decide +kernel
theorem dX12_image_8 : decode cX12_image 8 = .ok (.iload_n 2, 1) := by decide +kernel
theorem dX12_image_9 : decode cX12_image 9 = .ok (.invokevirtual 229, 3) := by decide +kernel
theorem dX12_image_12 : decode cX12_image 12 = .ok (.ifCond .eq 12, 3) := by decide +kernel
theorem dX12_image_15 : decode cX12_image 15 = .ok (.iload_n 3, 1) := by decide +kernel
theorem dX12_image_16 : decode cX12_image 16 = .ok (.iconst 0, 1) := by decide +kernel
theorem dX12_image_17 : decode cX12_image 17 = .ok (.iconst 1, 1) := by decide +kernel
theorem dX12_image_18 : decode cX12_image 18 = .ok (.invokestatic 182, 3) := by decide +kernel
theorem dX12_image_21 : decode cX12_image 21 = .ok (.ifCond .ne 5, 3) := by decide +kernel
theorem dX12_image_24 : decode cX12_image 24 = .ok (.iconst (-1), 1) := by decide +kernel
theorem dX12_image_25 : decode cX12_image 25 = .ok (.ireturn, 1) := by decide +kernel
theorem dX12_image_26 : decode cX12_image 26 = .ok (.aload_n 0, 1) := by decide +kernel
theorem dX12_image_27 : decode cX12_image 27 = .ok (.iload_n 1, 1) := by decide +kernel
theorem dX12_image_28 : decode cX12_image 28 = .ok (.invokevirtual 449, 3) := by decide +kernel
theorem dX12_image_31 : decode cX12_image 31 = .ok (.ifCond .ne 6, 3) := by decide +kernel
theorem dX12_image_34 : decode cX12_image 34 = .ok (.bipush (-3), 2) := by decide +kernel
theorem dX12_image_36 : decode cX12_image 36 = .ok (.ireturn, 1) := by decide +kernel
theorem dX12_image_37 : decode cX12_image 37 = .ok (.aload_n 0, 1) := by decide +kernel
theorem dX12_image_38 : decode cX12_image 38 = .ok (.getfield 66, 3) := by decide +kernel
theorem dX12_image_41 : decode cX12_image 41 = .ok (.bipush 120, 2) := by decide +kernel
theorem dX12_image_43 : decode cX12_image 43 = .ok (.iload_n 1, 1) := by decide +kernel
theorem dX12_image_44 : decode cX12_image 44 = .ok (.imul, 1) := by decide +kernel
theorem dX12_image_45 : decode cX12_image 45 = .ok (.iload_n 2, 1) := by decide +kernel
theorem dX12_image_46 : decode cX12_image 46 = .ok (.iadd, 1) := by decide +kernel
theorem dX12_image_47 : decode cX12_image 47 = .ok (.iaload, 1) := by decide +kernel
theorem dX12_image_48 : decode cX12_image 48 = .ok (.istore 4, 2) := by decide +kernel
theorem dX12_image_50 : decode cX12_image 50 = .ok (.iload 4, 2) := by decide +kernel
theorem dX12_image_52 : decode cX12_image 52 = .ok (.iconst (-1), 1) := by decide +kernel
theorem dX12_image_53 : decode cX12_image 53 = .ok (.if_icmp .ne 6, 3) := by decide +kernel
theorem dX12_image_56 : decode cX12_image 56 = .ok (.bipush (-4), 2) := by decide +kernel
theorem dX12_image_58 : decode cX12_image 58 = .ok (.ireturn, 1) := by decide +kernel
theorem dX12_image_59 : decode cX12_image 59 = .ok (.iload_n 3, 1) := by decide +kernel
theorem dX12_image_60 : decode cX12_image 60 = .ok (.iconst 1, 1) := by decide +kernel
theorem dX12_image_61 : decode cX12_image 61 = .ok (.if_icmp .ne 8, 3) := by decide +kernel
theorem dX12_image_64 : decode cX12_image 64 = .ok (.iload 4, 2) := by decide +kernel
theorem dX12_image_66 : decode cX12_image 66 = .ok (.goto 24, 3) := by decide +kernel
theorem dX12_image_69 : decode cX12_image 69 = .ok (.aload_n 0, 1) := by decide +kernel
theorem dX12_image_70 : decode cX12_image 70 = .ok (.iload_n 1, 1) := by decide +kernel
theorem dX12_image_71 : decode cX12_image 71 = .ok (.iload_n 2, 1) := by decide +kernel
theorem dX12_image_72 : decode cX12_image 72 = .ok (.invokevirtual 513, 3) := by decide +kernel
theorem dX12_image_75 : decode cX12_image 75 = .ok (.iconst (-1), 1) := by decide +kernel
theorem dX12_image_76 : decode cX12_image 76 = .ok (.if_icmp .ne 8, 3) := by decide +kernel
theorem dX12_image_79 : decode cX12_image 79 = .ok (.bipush (-2), 2) := by decide +kernel
theorem dX12_image_81 : decode cX12_image 81 = .ok (.goto 9, 3) := by decide +kernel
theorem dX12_image_84 : decode cX12_image 84 = .ok (.aload_n 0, 1) := by decide +kernel
theorem dX12_image_85 : decode cX12_image 85 = .ok (.iload_n 1, 1) := by decide +kernel
theorem dX12_image_86 : decode cX12_image 86 = .ok (.iload_n 2, 1) := by decide +kernel
theorem dX12_image_87 : decode cX12_image 87 = .ok (.invokevirtual 513, 3) := by decide +kernel
theorem dX12_image_90 : decode cX12_image 90 = .ok (.ireturn, 1) := by decide +kernel
noncomputable def F_image (M : gM) (a1 a2 a3 : Int) : Option (Int) := (Option.bind (F_isPlan a1) (fun r1 =>
    (if r1 = 0 then
      some (-1)
    else
      (Option.bind (F_isCommit M a2) (fun r9 =>
        (if r9 = 0 then
          some (-1)
        else
          (Option.bind (F_in a3 0 1) (fun r18 =>
            (if r18 = 0 then
              some (-1)
            else
              (Option.bind (F_isToldPlan M a1) (fun r28 =>
                (if r28 = 0 then
                  some (-3)
                else
                  (if 0 ≤ (gw32 ((gw32 ((120 : Int) * a1)) + a2)) ∧ (gw32 ((gw32 ((120 : Int) * a1)) + a2)) < 480 then
                    (if (M 730 (gw32 ((gw32 ((120 : Int) * a1)) + a2))) = -1 then
                      some (-4)
                    else
                      (if a3 = 1 then
                        some (M 730 (gw32 ((gw32 ((120 : Int) * a1)) + a2)))
                      else
                        (Option.bind (F_imageAt M a1 a2) (fun r72 =>
                          (if r72 = -1 then
                            some (-2)
                          else
                            (Option.bind (F_imageAt M a1 a2) (fun r87 =>
                              some r87)))))))
                  else none)))))))))))))
theorem eq_image (M : gM) (a1 a2 a3 : Int) : F_image M a1 a2 a3 = (Option.bind (F_isPlan a1) (fun r1 =>
    (if r1 = 0 then
      some (-1)
    else
      (Option.bind (F_isCommit M a2) (fun r9 =>
        (if r9 = 0 then
          some (-1)
        else
          (Option.bind (F_in a3 0 1) (fun r18 =>
            (if r18 = 0 then
              some (-1)
            else
              (Option.bind (F_isToldPlan M a1) (fun r28 =>
                (if r28 = 0 then
                  some (-3)
                else
                  (if 0 ≤ (gw32 ((gw32 ((120 : Int) * a1)) + a2)) ∧ (gw32 ((gw32 ((120 : Int) * a1)) + a2)) < 480 then
                    (if (M 730 (gw32 ((gw32 ((120 : Int) * a1)) + a2))) = -1 then
                      some (-4)
                    else
                      (if a3 = 1 then
                        some (M 730 (gw32 ((gw32 ((120 : Int) * a1)) + a2)))
                      else
                        (Option.bind (F_imageAt M a1 a2) (fun r72 =>
                          (if r72 = -1 then
                            some (-2)
                          else
                            (Option.bind (F_imageAt M a1 a2) (fun r87 =>
                              some r87)))))))
                  else none))))))))))))) := rfl
theorem ok_image {sh : gS} {M : gM} {a1 a2 a3 : Int} {b : Int} (hOK : gOK sh M) (h : F_image M a1 a2 a3 = some b) : gC (gr 2 43) yX12_image cX12_image 5 (some (.int)) [(4, 711), (0, a1), (0, a2), (0, a3)] sh M (gPq sh (some (0, b)) M) := by
  rw [eq_image] at h
  refine gC_ofA (lv := [_, _, _, _, _]) (by decide +kernel) (Nat.le_of_ble_eq_true rfl) rfl (fun hMw hav => ?_)
  refine g_iload_n (q0 := 1) (j := 1) rfl dX12_image_0 rfl ?_
  obtain ⟨r1, e1, h⟩ := gI_bd h
  refine g_callSq1 (as := [_]) (rest := []) mt_X12_isPlan ms_X12_isPlan ml_X12_433 dX12_image_1 (q0 := 4) rfl rfl (ok_isPlan hOK e1) rfl ⟨by decide, by decide⟩ (Nat.le_of_ble_eq_true rfl) ⟨Nat.zero_le _, Nat.zero_le _⟩ ?_
  refine g_if_eq (q0 := 7) (tgt := 24) rfl dX12_image_4 (by decide) (fun h4 => ?_) (fun h4 => ?_)
  · replace h := gI_pos h4 h
    refine g_iconst (q0 := 25) rfl dX12_image_24 (k := ?_)
    rw [← Option.some.inj h]
    refine g_ireturn dX12_image_25 rfl ⟨Nat.zero_le _, Nat.zero_le _⟩ ?_
    exact ⟨rfl, rfl, rfl⟩
  · replace h := gI_neg h4 h
    refine g_aload_n (q0 := 8) (j := 0) rfl dX12_image_7 rfl ?_
    refine g_iload_n (q0 := 9) (j := 2) rfl dX12_image_8 rfl ?_
    obtain ⟨r9, e9, h⟩ := gI_bd h
    refine g_callVq1 (as := [_]) (rest := []) mt_X12_isCommit mi_X12_isCommit se_X12_isCommit ml_X12_229 dX12_image_9 (q0 := 12) rfl rfl (sh_711 hOK) rfl rfl (ok_isCommit hOK e9) rfl ⟨by decide, by decide⟩ (Nat.le_of_ble_eq_true rfl) ⟨Nat.zero_le _, Nat.zero_le _⟩ ?_
    refine g_if_eq (q0 := 15) (tgt := 24) rfl dX12_image_12 (by decide) (fun h12 => ?_) (fun h12 => ?_)
    · replace h := gI_pos h12 h
      refine g_iconst (q0 := 25) rfl dX12_image_24 (k := ?_)
      rw [← Option.some.inj h]
      refine g_ireturn dX12_image_25 rfl ⟨Nat.zero_le _, Nat.zero_le _⟩ ?_
      exact ⟨rfl, rfl, rfl⟩
    · replace h := gI_neg h12 h
      refine g_iload_n (q0 := 16) (j := 3) rfl dX12_image_15 rfl ?_
      refine g_iconst (q0 := 17) rfl dX12_image_16 (k := ?_)
      refine g_iconst (q0 := 18) rfl dX12_image_17 (k := ?_)
      obtain ⟨r18, e18, h⟩ := gI_bd h
      refine g_callSq1 (as := [_, _, _]) (rest := []) mt_X12_in ms_X12_in ml_X12_182 dX12_image_18 (q0 := 21) rfl rfl (ok_in hOK e18) rfl ⟨by decide, by decide⟩ (Nat.le_of_ble_eq_true rfl) ⟨Nat.zero_le _, Nat.zero_le _⟩ ?_
      refine g_if_ne (q0 := 24) (tgt := 26) rfl dX12_image_21 (by decide) (fun h21 => ?_) (fun h21 => ?_)
      · replace h := gI_neg h21 h
        refine g_aload_n (q0 := 27) (j := 0) rfl dX12_image_26 rfl ?_
        refine g_iload_n (q0 := 28) (j := 1) rfl dX12_image_27 rfl ?_
        obtain ⟨r28, e28, h⟩ := gI_bd h
        refine g_callVq1 (as := [_]) (rest := []) mt_X12_isToldPlan mi_X12_isToldPlan se_X12_isToldPlan ml_X12_449 dX12_image_28 (q0 := 31) rfl rfl (sh_711 hOK) rfl rfl (ok_isToldPlan hOK e28) rfl ⟨by decide, by decide⟩ (Nat.le_of_ble_eq_true rfl) ⟨Nat.zero_le _, Nat.zero_le _⟩ ?_
        refine g_if_ne (q0 := 34) (tgt := 37) rfl dX12_image_31 (by decide) (fun h31 => ?_) (fun h31 => ?_)
        · replace h := gI_neg h31 h
          refine g_aload_n (q0 := 38) (j := 0) rfl dX12_image_37 rfl ?_
          refine g_getp (q0 := 41) (b := 730) rfl ff_X12_66 dX12_image_38 rfl hOK (by decide) (sh_711 hOK) rfl (by decide) ?_
          refine g_bipush (q0 := 43) rfl dX12_image_41 (k := ?_)
          refine g_iload_n (q0 := 44) (j := 1) rfl dX12_image_43 rfl ?_
          refine g_imulw (q0 := 45) rfl dX12_image_44 ?_
          refine g_iload_n (q0 := 46) (j := 2) rfl dX12_image_45 rfl ?_
          refine g_iaddw (q0 := 47) rfl dX12_image_46 ?_
          obtain ⟨g1, h⟩ := gI_gd h
          refine g_iald (q0 := 48) rfl dX12_image_47 (sh_730 hOK) g1.1 g1.2 ?_
          refine g_istore (q0 := 50) (j := 4) (lv2 := [_, _, _, _, _]) rfl dX12_image_48 (by decide) rfl rfl ?_
          refine g_iload (q0 := 52) (j := 4) rfl dX12_image_50 rfl ?_
          refine g_iconst (q0 := 53) rfl dX12_image_52 (k := ?_)
          refine g_icmp_ne (q0 := 56) (tgt := 59) rfl dX12_image_53 (by decide) (fun h53 => ?_) (fun h53 => ?_)
          · replace h := gI_neg h53 h
            refine g_iload_n (q0 := 60) (j := 3) rfl dX12_image_59 rfl ?_
            refine g_iconst (q0 := 61) rfl dX12_image_60 (k := ?_)
            refine g_icmp_ne (q0 := 64) (tgt := 69) rfl dX12_image_61 (by decide) (fun h61 => ?_) (fun h61 => ?_)
            · replace h := gI_neg h61 h
              refine g_aload_n (q0 := 70) (j := 0) rfl dX12_image_69 rfl ?_
              refine g_iload_n (q0 := 71) (j := 1) rfl dX12_image_70 rfl ?_
              refine g_iload_n (q0 := 72) (j := 2) rfl dX12_image_71 rfl ?_
              obtain ⟨r72, e72, h⟩ := gI_bd h
              refine g_callVq1 (as := [_, _]) (rest := []) mt_X12_imageAt mi_X12_imageAt se_X12_imageAt ml_X12_513 dX12_image_72 (q0 := 75) rfl rfl (sh_711 hOK) rfl rfl (ok_imageAt hOK e72) rfl ⟨by decide, by decide⟩ (Nat.le_of_ble_eq_true rfl) ⟨Nat.zero_le _, Nat.zero_le _⟩ ?_
              refine g_iconst (q0 := 76) rfl dX12_image_75 (k := ?_)
              refine g_icmp_ne (q0 := 79) (tgt := 84) rfl dX12_image_76 (by decide) (fun h76 => ?_) (fun h76 => ?_)
              · replace h := gI_neg h76 h
                refine g_aload_n (q0 := 85) (j := 0) rfl dX12_image_84 rfl ?_
                refine g_iload_n (q0 := 86) (j := 1) rfl dX12_image_85 rfl ?_
                refine g_iload_n (q0 := 87) (j := 2) rfl dX12_image_86 rfl ?_
                obtain ⟨r87, e87, h⟩ := gI_bd h
                refine g_callVq1 (as := [_, _]) (rest := []) mt_X12_imageAt mi_X12_imageAt se_X12_imageAt ml_X12_513 dX12_image_87 (q0 := 90) rfl rfl (sh_711 hOK) rfl rfl (ok_imageAt hOK e87) rfl ⟨by decide, by decide⟩ (Nat.le_of_ble_eq_true rfl) ⟨Nat.zero_le _, Nat.zero_le _⟩ ?_
                rw [← Option.some.inj h]
                refine g_ireturn dX12_image_90 rfl ⟨Nat.zero_le _, Nat.zero_le _⟩ ?_
                exact ⟨rfl, rfl, rfl⟩
              · replace h := gI_pos h76 h
                refine g_bipush (q0 := 81) rfl dX12_image_79 (k := ?_)
                refine g_goto (tgt := 90) dX12_image_81 (by decide) ?_
                rw [← Option.some.inj h]
                refine g_ireturn dX12_image_90 rfl ⟨Nat.zero_le _, Nat.zero_le _⟩ ?_
                exact ⟨rfl, rfl, rfl⟩
            · replace h := gI_pos h61 h
              refine g_iload (q0 := 66) (j := 4) rfl dX12_image_64 rfl ?_
              refine g_goto (tgt := 90) dX12_image_66 (by decide) ?_
              rw [← Option.some.inj h]
              refine g_ireturn dX12_image_90 rfl ⟨Nat.zero_le _, Nat.zero_le _⟩ ?_
              exact ⟨rfl, rfl, rfl⟩
          · replace h := gI_pos h53 h
            refine g_bipush (q0 := 58) rfl dX12_image_56 (k := ?_)
            rw [← Option.some.inj h]
            refine g_ireturn dX12_image_58 rfl ⟨Nat.zero_le _, Nat.zero_le _⟩ ?_
            exact ⟨rfl, rfl, rfl⟩
        · replace h := gI_pos h31 h
          refine g_bipush (q0 := 36) rfl dX12_image_34 (k := ?_)
          rw [← Option.some.inj h]
          refine g_ireturn dX12_image_36 rfl ⟨Nat.zero_le _, Nat.zero_le _⟩ ?_
          exact ⟨rfl, rfl, rfl⟩
      · replace h := gI_pos h21 h
        refine g_iconst (q0 := 25) rfl dX12_image_24 (k := ?_)
        rw [← Option.some.inj h]
        refine g_ireturn dX12_image_25 rfl ⟨Nat.zero_le _, Nat.zero_le _⟩ ?_
        exact ⟨rfl, rfl, rfl⟩
-- ==== tried
theorem dX12_tried_0 : decode cX12_tried 0 = .ok (.iload_n 1, 1) := by decide +kernel
theorem dX12_tried_1 : decode cX12_tried 1 = .ok (.invokestatic 433, 3) := by decide +kernel
theorem dX12_tried_4 : decode cX12_tried 4 = .ok (.ifCond .eq 20, 3) := by decide +kernel
theorem dX12_tried_7 : decode cX12_tried 7 = .ok (.aload_n 0, 1) := by decide +kernel
theorem dX12_tried_8 : decode cX12_tried 8 = .ok (.iload_n 2, 1) := by decide +kernel
theorem dX12_tried_9 : decode cX12_tried 9 = .ok (.invokevirtual 229, 3) := by decide +kernel
theorem dX12_tried_12 : decode cX12_tried 12 = .ok (.ifCond .eq 12, 3) := by decide +kernel
theorem dX12_tried_15 : decode cX12_tried 15 = .ok (.iload_n 3, 1) := by decide +kernel
theorem dX12_tried_16 : decode cX12_tried 16 = .ok (.iconst 0, 1) := by decide +kernel
theorem dX12_tried_17 : decode cX12_tried 17 = .ok (.iconst 3, 1) := by decide +kernel
theorem dX12_tried_18 : decode cX12_tried 18 = .ok (.invokestatic 182, 3) := by decide +kernel
theorem dX12_tried_21 : decode cX12_tried 21 = .ok (.ifCond .ne 5, 3) := by decide +kernel
theorem dX12_tried_24 : decode cX12_tried 24 = .ok (.iconst (-1), 1) := by decide +kernel
theorem dX12_tried_25 : decode cX12_tried 25 = .ok (.ireturn, 1) := by decide +kernel
theorem dX12_tried_26 : decode cX12_tried 26 = .ok (.aload_n 0, 1) := by decide +kernel
theorem dX12_tried_27 : decode cX12_tried 27 = .ok (.iload_n 1, 1) := by decide +kernel
theorem dX12_tried_28 : decode cX12_tried 28 = .ok (.invokevirtual 449, 3) := by decide +kernel
theorem dX12_tried_31 : decode cX12_tried 31 = .ok (.ifCond .ne 6, 3) := by decide +kernel
theorem dX12_tried_34 : decode cX12_tried 34 = .ok (.bipush (-3), 2) := by decide +kernel
theorem dX12_tried_36 : decode cX12_tried 36 = .ok (.ireturn, 1) := by decide +kernel
theorem dX12_tried_37 : decode cX12_tried 37 = .ok (.aload_n 0, 1) := by decide +kernel
theorem dX12_tried_38 : decode cX12_tried 38 = .ok (.iload_n 1, 1) := by decide +kernel
theorem dX12_tried_39 : decode cX12_tried 39 = .ok (.iload_n 2, 1) := by decide +kernel
theorem dX12_tried_40 : decode cX12_tried 40 = .ok (.invokevirtual 561, 3) := by decide +kernel
theorem dX12_tried_43 : decode cX12_tried 43 = .ok (.iload_n 3, 1) := by decide +kernel
theorem dX12_tried_44 : decode cX12_tried 44 = .ok (.iconst 3, 1) := by decide +kernel
theorem dX12_tried_45 : decode cX12_tried 45 = .ok (.if_icmp .ge 34, 3) := by decide +kernel
theorem dX12_tried_48 : decode cX12_tried 48 = .ok (.iload_n 3, 1) := by decide +kernel
theorem dX12_tried_49 : decode cX12_tried 49 = .ok (.ifCond .ne 13, 3) := by decide +kernel
theorem dX12_tried_52 : decode cX12_tried 52 = .ok (.aload_n 0, 1) := by decide +kernel
theorem dX12_tried_53 : decode cX12_tried 53 = .ok (.getfield 28, 3) := by decide +kernel
theorem dX12_tried_56 : decode cX12_tried 56 = .ok (.bipush 121, 2) := by decide +kernel
theorem dX12_tried_58 : decode cX12_tried 58 = .ok (.iaload, 1) := by decide +kernel
theorem dX12_tried_59 : decode cX12_tried 59 = .ok (.goto 19, 3) := by decide +kernel
theorem dX12_tried_62 : decode cX12_tried 62 = .ok (.iload_n 3, 1) := by decide +kernel
theorem dX12_tried_63 : decode cX12_tried 63 = .ok (.iconst 1, 1) := by decide +kernel
theorem dX12_tried_64 : decode cX12_tried 64 = .ok (.if_icmp .ne 10, 3) := by decide +kernel
theorem dX12_tried_67 : decode cX12_tried 67 = .ok (.aload_n 0, 1) := by decide +kernel
theorem dX12_tried_68 : decode cX12_tried 68 = .ok (.getfield 492, 3) := by decide +kernel
theorem dX12_tried_71 : decode cX12_tried 71 = .ok (.goto 7, 3) := by decide +kernel
theorem dX12_tried_74 : decode cX12_tried 74 = .ok (.aload_n 0, 1) := by decide +kernel
theorem dX12_tried_75 : decode cX12_tried 75 = .ok (.getfield 495, 3) := by decide +kernel
theorem dX12_tried_78 : decode cX12_tried 78 = .ok (.ireturn, 1) := by decide +kernel
theorem dX12_tried_79 : decode cX12_tried 79 = .ok (.iconst 0, 1) := by decide +kernel
theorem dX12_tried_80 : decode cX12_tried 80 = .ok (.istore 4, 2) := by decide +kernel
theorem dX12_tried_82 : decode cX12_tried 82 = .ok (.iload 4, 2) := by decide +kernel
theorem dX12_tried_84 : decode cX12_tried 84 = .ok (.aload_n 0, 1) := by decide +kernel
theorem dX12_tried_85 : decode cX12_tried 85 = .ok (.getfield 178, 3) := by decide +kernel
theorem dX12_tried_88 : decode cX12_tried 88 = .ok (.if_icmp .ge 23, 3) := by decide +kernel
theorem dX12_tried_91 : decode cX12_tried 91 = .ok (.aload_n 0, 1) := by decide +kernel
theorem dX12_tried_92 : decode cX12_tried 92 = .ok (.iload 4, 2) := by decide +kernel
theorem dX12_tried_94 : decode cX12_tried 94 = .ok (.bipush 121, 2) := by decide +kernel
theorem dX12_tried_96 : decode cX12_tried 96 = .ok (.invokevirtual 195, 3) := by decide +kernel
theorem dX12_tried_99 : decode cX12_tried 99 = .ok (.ifCond .eq 6, 3) := by decide +kernel
theorem dX12_tried_102 : decode cX12_tried 102 = .ok (.iload 4, 2) := by decide +kernel
theorem dX12_tried_104 : decode cX12_tried 104 = .ok (.ireturn, 1) := by decide +kernel
theorem dX12_tried_105 : decode cX12_tried 105 = .ok (.iinc 4 1, 3) := by decide +kernel
theorem dX12_tried_108 : decode cX12_tried 108 = .ok (.goto (-26), 3) := by decide +kernel
theorem dX12_tried_111 : decode cX12_tried 111 = .ok (.bipush (-2), 2) := by decide +kernel
theorem dX12_tried_113 : decode cX12_tried 113 = .ok (.ireturn, 1) := by decide +kernel
noncomputable def st_tried : Nat × List Int × gM → Option ((Nat × List Int × gM) ⊕ (Int × gM))
  | (0, [x1, x2, x3, x4], M) => (if x4 < (M 711 0) then
      (Option.bind (F_areLike M x4 121) (fun r96 =>
        (if r96 = 0 then
          some (.inl (0, [x1, x2, x3, (gw32 (x4 + 1))], M))
        else
          some (.inr (x4, M)))))
    else
      some (.inr (-2, M)))
  | _ => none
theorem sk_tried_82 (k : Nat × List Int × gM → Option (Int × gM)) (M : gM) (x1 x2 x3 x4 : Int) : gWk k (st_tried (0, [x1, x2, x3, x4], M)) = (if x4 < (M 711 0) then
    (Option.bind (F_areLike M x4 121) (fun r96 =>
      (if r96 = 0 then
        k (0, [x1, x2, x3, (gw32 (x4 + 1))], M)
      else
        some (x4, M))))
  else
    some (-2, M)) := by
  simp only [st_tried, gWk_ite, gWk_bind, gWk_inl, gWk_inr, gWk_none]
noncomputable def F_tried_82 (M : gM) (x1 x2 x3 x4 : Int) : Option (Int × gM) := gWh (st_tried) (0, [x1, x2, x3, x4], M)
theorem eq_tried_82 (M : gM) (x1 x2 x3 x4 : Int) : F_tried_82 M x1 x2 x3 x4 = (if x4 < (M 711 0) then
    (Option.bind (F_areLike M x4 121) (fun r96 =>
      (if r96 = 0 then
        F_tried_82 M x1 x2 x3 (gw32 (x4 + 1))
      else
        some (x4, M))))
  else
    some (-2, M)) := (gWh_eq _).trans (sk_tried_82 _ M x1 x2 x3 x4)
noncomputable def F_tried (M : gM) (a1 a2 a3 : Int) : Option (Int × gM) := (Option.bind (F_isPlan a1) (fun r1 =>
    (if r1 = 0 then
      some (-1, M)
    else
      (Option.bind (F_isCommit M a2) (fun r9 =>
        (if r9 = 0 then
          some (-1, M)
        else
          (Option.bind (F_in a3 0 3) (fun r18 =>
            (if r18 = 0 then
              some (-1, M)
            else
              (Option.bind (F_isToldPlan M a1) (fun r28 =>
                (if r28 = 0 then
                  some (-3, M)
                else
                  (Option.bind (F_carriesTree M a1 a2) (fun m40 =>
                    (if a3 < 3 then
                      (if a3 = 0 then
                        some ((m40 718 121), m40)
                      else
                        (if a3 = 1 then
                          some ((m40 711 32), m40)
                        else
                          some ((m40 711 33), m40)))
                    else
                      F_tried_82 m40 a1 a2 a3 0)))))))))))))))
theorem eq_tried (M : gM) (a1 a2 a3 : Int) : F_tried M a1 a2 a3 = (Option.bind (F_isPlan a1) (fun r1 =>
    (if r1 = 0 then
      some (-1, M)
    else
      (Option.bind (F_isCommit M a2) (fun r9 =>
        (if r9 = 0 then
          some (-1, M)
        else
          (Option.bind (F_in a3 0 3) (fun r18 =>
            (if r18 = 0 then
              some (-1, M)
            else
              (Option.bind (F_isToldPlan M a1) (fun r28 =>
                (if r28 = 0 then
                  some (-3, M)
                else
                  (Option.bind (F_carriesTree M a1 a2) (fun m40 =>
                    (if a3 < 3 then
                      (if a3 = 0 then
                        some ((m40 718 121), m40)
                      else
                        (if a3 = 1 then
                          some ((m40 711 32), m40)
                        else
                          some ((m40 711 33), m40)))
                    else
                      F_tried_82 m40 a1 a2 a3 0))))))))))))))) := rfl
theorem frp_tried : ∀ (s : Nat × List Int × gM) (b : Int × gM), gWh (st_tried) s = some b → (∀ (x1 x2 x3 x4 : Int) (M : gM), s = (0, [x1, x2, x3, x4], M) → gFr [718, 719, 720] [32, 33] M b.2) := by
  refine gWh_ind (fun k hk s b h => ?_)
  · rintro x1 x2 x3 x4 M rfl
    rw [sk_tried_82] at h
    rcases gI_or h with h | h
    · obtain ⟨r96, e96, h⟩ := gI_bd h
      rcases gI_or h with h | h
      · exact gFr_t (gFr_r [718, 719, 720] [32, 33] _) ((hk _ _ h) _ _ _ _ _ rfl) (fun _ z => z) (fun _ z => z)
      · rw [← Option.some.inj h]
        exact (gFr_r [718, 719, 720] [32, 33] _)
    · rw [← Option.some.inj h]
      exact (gFr_r [718, 719, 720] [32, 33] _)
theorem fr_tried_82 {M : gM} {x1 x2 x3 x4 : Int} {b : Int × gM} (h : F_tried_82 M x1 x2 x3 x4 = some b) : gFr [718, 719, 720] [32, 33] M b.2 :=
  (frp_tried _ _ h) _ _ _ _ _ rfl
theorem fr_tried {M : gM} {a1 a2 a3 : Int} {b : Int × gM} (h : F_tried M a1 a2 a3 = some b) : gFr [718, 719, 720] [32, 33] M b.2 := by
  rw [eq_tried] at h
  obtain ⟨r1, e1, h⟩ := gI_bd h
  rcases gI_or h with h | h
  · rw [← Option.some.inj h]
    exact (gFr_r [718, 719, 720] [32, 33] _)
  · obtain ⟨r9, e9, h⟩ := gI_bd h
    rcases gI_or h with h | h
    · rw [← Option.some.inj h]
      exact (gFr_r [718, 719, 720] [32, 33] _)
    · obtain ⟨r18, e18, h⟩ := gI_bd h
      rcases gI_or h with h | h
      · rw [← Option.some.inj h]
        exact (gFr_r [718, 719, 720] [32, 33] _)
      · obtain ⟨r28, e28, h⟩ := gI_bd h
        rcases gI_or h with h | h
        · rw [← Option.some.inj h]
          exact (gFr_r [718, 719, 720] [32, 33] _)
        · obtain ⟨m40, e40, h⟩ := gI_bd h
          rcases gI_or h with h | h
          · rcases gI_or h with h | h
            · rw [← Option.some.inj h]
              exact (gFr_t (gFr_r [718, 719, 720] [32, 33] _) (fr_carriesTree (b := m40) e40) (by first | decide | simp) (by decide))
            · rcases gI_or h with h | h
              · rw [← Option.some.inj h]
                exact (gFr_t (gFr_r [718, 719, 720] [32, 33] _) (fr_carriesTree (b := m40) e40) (by first | decide | simp) (by decide))
              · rw [← Option.some.inj h]
                exact (gFr_t (gFr_r [718, 719, 720] [32, 33] _) (fr_carriesTree (b := m40) e40) (by first | decide | simp) (by decide))
          · exact gFr_t (gFr_t (gFr_r [718, 719, 720] [32, 33] _) (fr_carriesTree (b := m40) e40) (by first | decide | simp) (by decide)) (fr_tried_82 h) (fun _ z => z) (fun _ z => z)
theorem okp_tried {sh : gS} : ∀ (s : Nat × List Int × gM) (b : Int × gM), gWh (st_tried) s = some b → (∀ (x1 x2 x3 x4 : Int) (M : gM), s = (0, [x1, x2, x3, x4], M) → gOK sh M → gA (gr 6 140) yX12_tried cX12_tried 5 (some (.int)) (gPq sh (some (0, b.1)) b.2) (0, 0) 82 [(4, 711), (0, x1), (0, x2), (0, x3), (0, x4)] [] sh M) := by
  refine gWh_ind (fun k hk s b h => ?_)
  · rintro x1 x2 x3 x4 M rfl hOK
    rw [sk_tried_82] at h
    refine g_iload (q0 := 84) (j := 4) rfl dX12_tried_82 rfl ?_
    refine g_aload_n (q0 := 85) (j := 0) rfl dX12_tried_84 rfl ?_
    refine g_getf (q0 := 88) (t := 0) (fi := 0) rfl rfl ff_X12_178 dX12_tried_85 rfl (sh_711 hOK) ?_
    refine g_icmp_ge (q0 := 91) (tgt := 111) rfl dX12_tried_88 (by decide) (fun h88 => ?_) (fun h88 => ?_)
    · replace h := gI_neg (Int.not_lt.mpr h88) h
      refine g_bipush (q0 := 113) rfl dX12_tried_111 (k := ?_)
      rw [← Option.some.inj h]
      refine g_ireturn dX12_tried_113 rfl ⟨Nat.zero_le _, Nat.zero_le _⟩ ?_
      exact ⟨rfl, rfl, rfl⟩
    · replace h := gI_pos h88 h
      refine g_aload_n (q0 := 92) (j := 0) rfl dX12_tried_91 rfl ?_
      refine g_iload (q0 := 94) (j := 4) rfl dX12_tried_92 rfl ?_
      refine g_bipush (q0 := 96) rfl dX12_tried_94 (k := ?_)
      obtain ⟨r96, e96, h⟩ := gI_bd h
      refine g_callVq1 (as := [_, _]) (rest := []) mt_X12_areLike mi_X12_areLike se_X12_areLike ml_X12_195 dX12_tried_96 (q0 := 99) rfl rfl (sh_711 hOK) rfl rfl (ok_areLike hOK e96) rfl ⟨by decide, by decide⟩ (Nat.le_of_ble_eq_true rfl) ⟨Nat.zero_le _, Nat.zero_le _⟩ ?_
      refine g_if_eq (q0 := 102) (tgt := 105) rfl dX12_tried_99 (by decide) (fun h99 => ?_) (fun h99 => ?_)
      · replace h := gI_pos h99 h
        refine g_iincw (q0 := 108) (lv2 := [_, _, _, _, _]) rfl dX12_tried_105 rfl (by decide) rfl rfl ?_
        refine g_goto (tgt := 82) dX12_tried_108 (by decide) ?_
        exact (hk _ _ h) _ _ _ _ _ rfl hOK
      · replace h := gI_neg h99 h
        refine g_iload (q0 := 104) (j := 4) rfl dX12_tried_102 rfl ?_
        rw [← Option.some.inj h]
        refine g_ireturn dX12_tried_104 rfl ⟨Nat.zero_le _, Nat.zero_le _⟩ ?_
        exact ⟨rfl, rfl, rfl⟩
theorem ok_tried_82 {sh : gS} {M : gM} {x1 x2 x3 x4 : Int} {b : Int × gM} (hOK : gOK sh M) (h : F_tried_82 M x1 x2 x3 x4 = some b) : gA (gr 6 140) yX12_tried cX12_tried 5 (some (.int)) (gPq sh (some (0, b.1)) b.2) (0, 0) 82 [(4, 711), (0, x1), (0, x2), (0, x3), (0, x4)] [] sh M :=
  (okp_tried _ _ h) _ _ _ _ _ rfl hOK
theorem ok_tried {sh : gS} {M : gM} {a1 a2 a3 : Int} {b : Int × gM} (hOK : gOK sh M) (h : F_tried M a1 a2 a3 = some b) : gC (gr 6 140) yX12_tried cX12_tried 5 (some (.int)) [(4, 711), (0, a1), (0, a2), (0, a3)] sh M (gPq sh (some (0, b.1)) b.2) := by
  rw [eq_tried] at h
  refine gC_ofA (lv := [_, _, _, _, _]) (by decide +kernel) (Nat.le_of_ble_eq_true rfl) rfl (fun hMw hav => ?_)
  refine g_iload_n (q0 := 1) (j := 1) rfl dX12_tried_0 rfl ?_
  obtain ⟨r1, e1, h⟩ := gI_bd h
  refine g_callSq1 (as := [_]) (rest := []) mt_X12_isPlan ms_X12_isPlan ml_X12_433 dX12_tried_1 (q0 := 4) rfl rfl (ok_isPlan hOK e1) rfl ⟨by decide, by decide⟩ (Nat.le_of_ble_eq_true rfl) ⟨Nat.zero_le _, Nat.zero_le _⟩ ?_
  refine g_if_eq (q0 := 7) (tgt := 24) rfl dX12_tried_4 (by decide) (fun h4 => ?_) (fun h4 => ?_)
  · replace h := gI_pos h4 h
    refine g_iconst (q0 := 25) rfl dX12_tried_24 (k := ?_)
    rw [← Option.some.inj h]
    refine g_ireturn dX12_tried_25 rfl ⟨Nat.zero_le _, Nat.zero_le _⟩ ?_
    exact ⟨rfl, rfl, rfl⟩
  · replace h := gI_neg h4 h
    refine g_aload_n (q0 := 8) (j := 0) rfl dX12_tried_7 rfl ?_
    refine g_iload_n (q0 := 9) (j := 2) rfl dX12_tried_8 rfl ?_
    obtain ⟨r9, e9, h⟩ := gI_bd h
    refine g_callVq1 (as := [_]) (rest := []) mt_X12_isCommit mi_X12_isCommit se_X12_isCommit ml_X12_229 dX12_tried_9 (q0 := 12) rfl rfl (sh_711 hOK) rfl rfl (ok_isCommit hOK e9) rfl ⟨by decide, by decide⟩ (Nat.le_of_ble_eq_true rfl) ⟨Nat.zero_le _, Nat.zero_le _⟩ ?_
    refine g_if_eq (q0 := 15) (tgt := 24) rfl dX12_tried_12 (by decide) (fun h12 => ?_) (fun h12 => ?_)
    · replace h := gI_pos h12 h
      refine g_iconst (q0 := 25) rfl dX12_tried_24 (k := ?_)
      rw [← Option.some.inj h]
      refine g_ireturn dX12_tried_25 rfl ⟨Nat.zero_le _, Nat.zero_le _⟩ ?_
      exact ⟨rfl, rfl, rfl⟩
    · replace h := gI_neg h12 h
      refine g_iload_n (q0 := 16) (j := 3) rfl dX12_tried_15 rfl ?_
      refine g_iconst (q0 := 17) rfl dX12_tried_16 (k := ?_)
      refine g_iconst (q0 := 18) rfl dX12_tried_17 (k := ?_)
      obtain ⟨r18, e18, h⟩ := gI_bd h
      refine g_callSq1 (as := [_, _, _]) (rest := []) mt_X12_in ms_X12_in ml_X12_182 dX12_tried_18 (q0 := 21) rfl rfl (ok_in hOK e18) rfl ⟨by decide, by decide⟩ (Nat.le_of_ble_eq_true rfl) ⟨Nat.zero_le _, Nat.zero_le _⟩ ?_
      refine g_if_ne (q0 := 24) (tgt := 26) rfl dX12_tried_21 (by decide) (fun h21 => ?_) (fun h21 => ?_)
      · replace h := gI_neg h21 h
        refine g_aload_n (q0 := 27) (j := 0) rfl dX12_tried_26 rfl ?_
        refine g_iload_n (q0 := 28) (j := 1) rfl dX12_tried_27 rfl ?_
        obtain ⟨r28, e28, h⟩ := gI_bd h
        refine g_callVq1 (as := [_]) (rest := []) mt_X12_isToldPlan mi_X12_isToldPlan se_X12_isToldPlan ml_X12_449 dX12_tried_28 (q0 := 31) rfl rfl (sh_711 hOK) rfl rfl (ok_isToldPlan hOK e28) rfl ⟨by decide, by decide⟩ (Nat.le_of_ble_eq_true rfl) ⟨Nat.zero_le _, Nat.zero_le _⟩ ?_
        refine g_if_ne (q0 := 34) (tgt := 37) rfl dX12_tried_31 (by decide) (fun h31 => ?_) (fun h31 => ?_)
        · replace h := gI_neg h31 h
          refine g_aload_n (q0 := 38) (j := 0) rfl dX12_tried_37 rfl ?_
          refine g_iload_n (q0 := 39) (j := 1) rfl dX12_tried_38 rfl ?_
          refine g_iload_n (q0 := 40) (j := 2) rfl dX12_tried_39 rfl ?_
          obtain ⟨m40, e40, h⟩ := gI_bd h
          refine g_callVq0 (as := [_, _]) (rest := []) mt_X12_carriesTree mi_X12_carriesTree se_X12_carriesTree ml_X12_561 dX12_tried_40 (q0 := 43) rfl rfl (sh_711 hOK) rfl rfl (ok_carriesTree hOK e40) rfl ⟨by decide, by decide⟩ (Nat.le_of_ble_eq_true rfl) ⟨Nat.zero_le _, Nat.zero_le _⟩ ?_
          have hOK1 : gOK sh m40 := gOK_fr hOK (fr_carriesTree (b := m40) e40) (by first | decide | (intro a ha; simp only [List.mem_cons, List.not_mem_nil, or_false] at ha; omega)) (by decide)
          refine g_iload_n (q0 := 44) (j := 3) rfl dX12_tried_43 rfl ?_
          refine g_iconst (q0 := 45) rfl dX12_tried_44 (k := ?_)
          refine g_icmp_ge (q0 := 48) (tgt := 79) rfl dX12_tried_45 (by decide) (fun h45 => ?_) (fun h45 => ?_)
          · replace h := gI_neg (Int.not_lt.mpr h45) h
            refine g_iconst (q0 := 80) rfl dX12_tried_79 (k := ?_)
            refine g_istore (q0 := 82) (j := 4) (lv2 := [_, _, _, _, _]) rfl dX12_tried_80 (by decide) rfl rfl ?_
            exact ok_tried_82 hOK1 h
          · replace h := gI_pos h45 h
            refine g_iload_n (q0 := 49) (j := 3) rfl dX12_tried_48 rfl ?_
            refine g_if_ne (q0 := 52) (tgt := 62) rfl dX12_tried_49 (by decide) (fun h49 => ?_) (fun h49 => ?_)
            · replace h := gI_neg h49 h
              refine g_iload_n (q0 := 63) (j := 3) rfl dX12_tried_62 rfl ?_
              refine g_iconst (q0 := 64) rfl dX12_tried_63 (k := ?_)
              refine g_icmp_ne (q0 := 67) (tgt := 74) rfl dX12_tried_64 (by decide) (fun h64 => ?_) (fun h64 => ?_)
              · replace h := gI_neg h64 h
                refine g_aload_n (q0 := 75) (j := 0) rfl dX12_tried_74 rfl ?_
                refine g_getf (q0 := 78) (t := 0) (fi := 33) rfl rfl ff_X12_495 dX12_tried_75 rfl (sh_711 hOK1) ?_
                rw [← Option.some.inj h]
                refine g_ireturn dX12_tried_78 rfl ⟨Nat.zero_le _, Nat.zero_le _⟩ ?_
                exact ⟨rfl, rfl, rfl⟩
              · replace h := gI_pos h64 h
                refine g_aload_n (q0 := 68) (j := 0) rfl dX12_tried_67 rfl ?_
                refine g_getf (q0 := 71) (t := 0) (fi := 32) rfl rfl ff_X12_492 dX12_tried_68 rfl (sh_711 hOK1) ?_
                refine g_goto (tgt := 78) dX12_tried_71 (by decide) ?_
                rw [← Option.some.inj h]
                refine g_ireturn dX12_tried_78 rfl ⟨Nat.zero_le _, Nat.zero_le _⟩ ?_
                exact ⟨rfl, rfl, rfl⟩
            · replace h := gI_pos h49 h
              refine g_aload_n (q0 := 53) (j := 0) rfl dX12_tried_52 rfl ?_
              refine g_getp (q0 := 56) (b := 718) rfl ff_X12_28 dX12_tried_53 rfl hOK1 (by decide) (sh_711 hOK1) rfl (by decide) ?_
              refine g_bipush (q0 := 58) rfl dX12_tried_56 (k := ?_)
              refine g_iald (q0 := 59) rfl dX12_tried_58 (sh_718 hOK1) (by decide) (by decide) ?_
              refine g_goto (tgt := 78) dX12_tried_59 (by decide) ?_
              rw [← Option.some.inj h]
              refine g_ireturn dX12_tried_78 rfl ⟨Nat.zero_le _, Nat.zero_le _⟩ ?_
              exact ⟨rfl, rfl, rfl⟩
        · replace h := gI_pos h31 h
          refine g_bipush (q0 := 36) rfl dX12_tried_34 (k := ?_)
          rw [← Option.some.inj h]
          refine g_ireturn dX12_tried_36 rfl ⟨Nat.zero_le _, Nat.zero_le _⟩ ?_
          exact ⟨rfl, rfl, rfl⟩
      · replace h := gI_pos h21 h
        refine g_iconst (q0 := 25) rfl dX12_tried_24 (k := ?_)
        rw [← Option.some.inj h]
        refine g_ireturn dX12_tried_25 rfl ⟨Nat.zero_le _, Nat.zero_le _⟩ ?_
        exact ⟨rfl, rfl, rfl⟩
-- ==== isNaNd
theorem dJxe99ae_isNaN_b9ae7_0 : decode cJxe99ae_isNaN_b9ae7 0 = .ok (.dload_n 0, 1) := by decide +kernel
theorem dJxe99ae_isNaN_b9ae7_1 : decode cJxe99ae_isNaN_b9ae7 1 = .ok (.dload_n 0, 1) := by decide +kernel
theorem dJxe99ae_isNaN_b9ae7_2 : decode cJxe99ae_isNaN_b9ae7 2 = .ok (.dcmp .l, 1) := by decide +kernel
theorem dJxe99ae_isNaN_b9ae7_3 : decode cJxe99ae_isNaN_b9ae7 3 = .ok (.ifCond .eq 7, 3) := by decide +kernel
theorem dJxe99ae_isNaN_b9ae7_6 : decode cJxe99ae_isNaN_b9ae7 6 = .ok (.iconst 1, 1) := by decide +kernel
theorem dJxe99ae_isNaN_b9ae7_7 : decode cJxe99ae_isNaN_b9ae7 7 = .ok (.goto 4, 3) := by decide +kernel
theorem dJxe99ae_isNaN_b9ae7_10 : decode cJxe99ae_isNaN_b9ae7 10 = .ok (.iconst 0, 1) := by decide +kernel
theorem dJxe99ae_isNaN_b9ae7_11 : decode cJxe99ae_isNaN_b9ae7 11 = .ok (.ireturn, 1) := by decide +kernel
noncomputable def F_isNaNd (a0 : Int) : Option (Int) := (if (Op.cmpValue (FP.dcmp (gU64 a0) (gU64 a0)) .l).toInt = 0 then
    some 0
  else
    some 1)
theorem eq_isNaNd (a0 : Int) : F_isNaNd a0 = (if (Op.cmpValue (FP.dcmp (gU64 a0) (gU64 a0)) .l).toInt = 0 then
    some 0
  else
    some 1) := rfl
theorem bo_isNaNd {a0 : Int} {b : Int} (h : F_isNaNd a0 = some b) : b = 0 ∨ b = 1 := by
  rw [eq_isNaNd] at h
  rcases gI_or h with h | h
  · rw [← Option.some.inj h]
    exact (Or.inl rfl)
  · rw [← Option.some.inj h]
    exact (Or.inr rfl)
theorem ok_isNaNd {sh : gS} {M : gM} {a0 : Int} {b : Int} (hOK : gOK sh M) (h : F_isNaNd a0 = some b) : gC (gr 0 0) yJxe99ae_isNaN_b9ae7 cJxe99ae_isNaN_b9ae7 2 (some (.boolean)) [(3, a0)] sh M (gPq sh (some (0, b)) M) := by
  rw [eq_isNaNd] at h
  refine gC_ofA (lv := [_, _]) (by decide +kernel) (Nat.le_of_ble_eq_true rfl) rfl (fun hMw hav => ?_)
  refine g_dload_n (q0 := 1) (j := 0) rfl dJxe99ae_isNaN_b9ae7_0 rfl ?_
  refine g_dload_n (q0 := 2) (j := 0) rfl dJxe99ae_isNaN_b9ae7_1 rfl ?_
  refine g_dcmp (q0 := 3) rfl dJxe99ae_isNaN_b9ae7_2 ?_
  refine g_if_eq (q0 := 6) (tgt := 10) rfl dJxe99ae_isNaN_b9ae7_3 (by decide) (fun h3 => ?_) (fun h3 => ?_)
  · replace h := gI_pos h3 h
    refine g_iconst (q0 := 11) rfl dJxe99ae_isNaN_b9ae7_10 (k := ?_)
    rw [← Option.some.inj h]
    refine g_zreturn dJxe99ae_isNaN_b9ae7_11 rfl (gnz (Or.inl rfl)) ⟨Nat.zero_le _, Nat.zero_le _⟩ ?_
    exact ⟨rfl, rfl, rfl⟩
  · replace h := gI_neg h3 h
    refine g_iconst (q0 := 7) rfl dJxe99ae_isNaN_b9ae7_6 (k := ?_)
    refine g_goto (tgt := 11) dJxe99ae_isNaN_b9ae7_7 (by decide) ?_
    rw [← Option.some.inj h]
    refine g_zreturn dJxe99ae_isNaN_b9ae7_11 rfl (gnz (Or.inr rfl)) ⟨Nat.zero_le _, Nat.zero_le _⟩ ?_
    exact ⟨rfl, rfl, rfl⟩
-- ==== dbits
theorem dJxe99ae_doubleToLongBits_ccdee_0 : decode cJxe99ae_doubleToLongBits_ccdee 0 = .ok (.dload_n 0, 1) := by decide +kernel
theorem dJxe99ae_doubleToLongBits_ccdee_1 : decode cJxe99ae_doubleToLongBits_ccdee 1 = .ok (.invokestatic 122, 3) := by decide +kernel
theorem dJxe99ae_doubleToLongBits_ccdee_4 : decode cJxe99ae_doubleToLongBits_ccdee 4 = .ok (.ifCond .ne 8, 3) := by decide +kernel
theorem dJxe99ae_doubleToLongBits_ccdee_7 : decode cJxe99ae_doubleToLongBits_ccdee 7 = .ok (.dload_n 0, 1) := by decide +kernel
theorem dJxe99ae_doubleToLongBits_ccdee_8 : decode cJxe99ae_doubleToLongBits_ccdee 8 = .ok (.invokestatic 134, 3) := by decide +kernel
theorem dJxe99ae_doubleToLongBits_ccdee_11 : decode cJxe99ae_doubleToLongBits_ccdee 11 = .ok (.lreturn, 1) := by decide +kernel
theorem dJxe99ae_doubleToLongBits_ccdee_12 : decode cJxe99ae_doubleToLongBits_ccdee 12 = .ok (.ldc2_w 137, 3) := by decide +kernel
theorem dJxe99ae_doubleToLongBits_ccdee_15 : decode cJxe99ae_doubleToLongBits_ccdee 15 = .ok (.lreturn, 1) := by decide +kernel
noncomputable def F_dbits (a0 : Int) : Option (Int) := (Option.bind (F_isNaNd a0) (fun r1 =>
    (if r1 = 0 then
      some (((gU64 a0).toInt64).toInt)
    else
      some 9221120237041090560)))
theorem eq_dbits (a0 : Int) : F_dbits a0 = (Option.bind (F_isNaNd a0) (fun r1 =>
    (if r1 = 0 then
      some (((gU64 a0).toInt64).toInt)
    else
      some 9221120237041090560))) := rfl
theorem ok_dbits {sh : gS} {M : gM} {a0 : Int} {b : Int} (hOK : gOK sh M) (h : F_dbits a0 = some b) : gC (gr 1 68) yJxe99ae_doubleToLongBits_ccdee cJxe99ae_doubleToLongBits_ccdee 2 (some (.long)) [(3, a0)] sh M (gPq sh (some (1, b)) M) := by
  rw [eq_dbits] at h
  refine gC_ofA (lv := [_, _]) (by decide +kernel) (Nat.le_of_ble_eq_true rfl) rfl (fun hMw hav => ?_)
  refine g_dload_n (q0 := 1) (j := 0) rfl dJxe99ae_doubleToLongBits_ccdee_0 rfl ?_
  obtain ⟨r1, e1, h⟩ := gI_bd h
  refine g_callSq1 (as := [_]) (rest := []) mt_Jxe99ae_isNaN_b9ae7 ms_Jxe99ae_isNaN_b9ae7 ml_Jxe99ae_122 dJxe99ae_doubleToLongBits_ccdee_1 (q0 := 4) rfl rfl (ok_isNaNd hOK e1) rfl ⟨by decide, by decide⟩ (Nat.le_of_ble_eq_true rfl) ⟨Nat.zero_le _, Nat.zero_le _⟩ ?_
  refine g_if_ne (q0 := 7) (tgt := 12) rfl dJxe99ae_doubleToLongBits_ccdee_4 (by decide) (fun h4 => ?_) (fun h4 => ?_)
  · replace h := gI_neg h4 h
    refine g_ldc2 (q0 := 15) (n := 9221120237041090560) rfl co_Jxe99ae_137 dJxe99ae_doubleToLongBits_ccdee_12 (k := ?_)
    rw [← Option.some.inj h]
    refine g_lreturn dJxe99ae_doubleToLongBits_ccdee_15 rfl ⟨Nat.zero_le _, Nat.zero_le _⟩ ?_
    exact ⟨rfl, rfl, rfl⟩
  · replace h := gI_pos h4 h
    refine g_dload_n (q0 := 8) (j := 0) rfl dJxe99ae_doubleToLongBits_ccdee_7 rfl ?_
    refine g_d2bits (q0 := 11) rfl ml_Jxe99ae_134 nat_d2bits sta_d2bits inic_Double dJxe99ae_doubleToLongBits_ccdee_8 (by decide) (Nat.le_of_ble_eq_true rfl) ?_
    rw [← Option.some.inj h]
    refine g_lreturn dJxe99ae_doubleToLongBits_ccdee_11 rfl ⟨Nat.zero_le _, Nat.zero_le _⟩ ?_
    exact ⟨rfl, rfl, rfl⟩
-- ==== share
theorem dX12_share_0 : decode cX12_share 0 = .ok (.iload_n 1, 1) := by decide +kernel
theorem dX12_share_1 : decode cX12_share 1 = .ok (.invokestatic 433, 3) := by decide +kernel
theorem dX12_share_4 : decode cX12_share 4 = .ok (.ifCond .ne 7, 3) := by decide +kernel
theorem dX12_share_7 : decode cX12_share 7 = .ok (.ldc2_w 600, 3) := by decide +kernel
theorem dX12_share_10 : decode cX12_share 10 = .ok (.lreturn, 1) := by decide +kernel
theorem dX12_share_11 : decode cX12_share 11 = .ok (.aload_n 0, 1) := by decide +kernel
theorem dX12_share_12 : decode cX12_share 12 = .ok (.iload_n 1, 1) := by decide +kernel
theorem dX12_share_13 : decode cX12_share 13 = .ok (.invokevirtual 449, 3) := by decide +kernel
theorem dX12_share_16 : decode cX12_share 16 = .ok (.ifCond .ne 7, 3) := by decide +kernel
theorem dX12_share_19 : decode cX12_share 19 = .ok (.ldc2_w 602, 3) := by decide +kernel
theorem dX12_share_22 : decode cX12_share 22 = .ok (.lreturn, 1) := by decide +kernel
theorem dX12_share_23 : decode cX12_share 23 = .ok (.aload_n 0, 1) := by decide +kernel
theorem dX12_share_24 : decode cX12_share 24 = .ok (.iload_n 1, 1) := by decide +kernel
theorem dX12_share_25 : decode cX12_share 25 = .ok (.iconst (-1), 1) := by decide +kernel
theorem dX12_share_26 : decode cX12_share 26 = .ok (.invokevirtual 458, 3) := by decide +kernel
theorem dX12_share_29 : decode cX12_share 29 = .ok (.i2d, 1) := by decide +kernel
theorem dX12_share_30 : decode cX12_share 30 = .ok (.dstore_n 2, 1) := by decide +kernel
theorem dX12_share_31 : decode cX12_share 31 = .ok (.dload_n 2, 1) := by decide +kernel
theorem dX12_share_32 : decode cX12_share 32 = .ok (.dconst 0, 1) := by decide +kernel
theorem dX12_share_33 : decode cX12_share 33 = .ok (.dcmp .l, 1) := by decide +kernel
theorem dX12_share_34 : decode cX12_share 34 = .ok (.ifCond .ne 7, 3) := by decide +kernel
theorem dX12_share_37 : decode cX12_share 37 = .ok (.dconst 0, 1) := by decide +kernel
theorem dX12_share_38 : decode cX12_share 38 = .ok (.goto 12, 3) := by decide +kernel
theorem dX12_share_41 : decode cX12_share 41 = .ok (.aload_n 0, 1) := by decide +kernel
theorem dX12_share_42 : decode cX12_share 42 = .ok (.iload_n 1, 1) := by decide +kernel
theorem dX12_share_43 : decode cX12_share 43 = .ok (.iconst 0, 1) := by decide +kernel
theorem dX12_share_44 : decode cX12_share 44 = .ok (.invokevirtual 458, 3) := by decide +kernel
theorem dX12_share_47 : decode cX12_share 47 = .ok (.i2d, 1) := by decide +kernel
theorem dX12_share_48 : decode cX12_share 48 = .ok (.dload_n 2, 1) := by decide +kernel
theorem dX12_share_49 : decode cX12_share 49 = .ok (.ddiv, 1) := by decide +kernel
theorem dX12_share_50 : decode cX12_share 50 = .ok (.invokestatic 604, 3) := by decide +kernel
theorem dX12_share_53 : decode cX12_share 53 = .ok (.lreturn, 1) := by decide +kernel
noncomputable def F_share (M : gM) (a1 : Int) : Option (Int) := (Option.bind (F_isPlan a1) (fun r1 =>
    (if r1 = 0 then
      some (-1)
    else
      (Option.bind (F_isToldPlan M a1) (fun r13 =>
        (if r13 = 0 then
          some (-3)
        else
          (Option.bind (F_mapped M a1 (-1)) (fun r26 =>
            (if (Op.cmpValue (FP.dcmp (gU64 (gdb (FP.i2d (Int32.ofInt r26)))) (gU64 (gdb FP.dconst0))) .l).toInt = 0 then
              (Option.bind (F_dbits (gdb FP.dconst0)) (fun r50 =>
                some r50))
            else
              (Option.bind (F_mapped M a1 0) (fun r44 =>
                (if (FP.ddiv (gU64 (gdb (FP.i2d (Int32.ofInt r44)))) (gU64 (gdb (FP.i2d (Int32.ofInt r26))))) &&& 0x7fffffffffffffff ≤ (0x7ff0000000000000 : UInt64) then
                  (Option.bind (F_dbits (gdb (FP.ddiv (gU64 (gdb (FP.i2d (Int32.ofInt r44)))) (gU64 (gdb (FP.i2d (Int32.ofInt r26))))))) (fun r50 =>
                    some r50))
                else none))))))))))))
theorem eq_share (M : gM) (a1 : Int) : F_share M a1 = (Option.bind (F_isPlan a1) (fun r1 =>
    (if r1 = 0 then
      some (-1)
    else
      (Option.bind (F_isToldPlan M a1) (fun r13 =>
        (if r13 = 0 then
          some (-3)
        else
          (Option.bind (F_mapped M a1 (-1)) (fun r26 =>
            (if (Op.cmpValue (FP.dcmp (gU64 (gdb (FP.i2d (Int32.ofInt r26)))) (gU64 (gdb FP.dconst0))) .l).toInt = 0 then
              (Option.bind (F_dbits (gdb FP.dconst0)) (fun r50 =>
                some r50))
            else
              (Option.bind (F_mapped M a1 0) (fun r44 =>
                (if (FP.ddiv (gU64 (gdb (FP.i2d (Int32.ofInt r44)))) (gU64 (gdb (FP.i2d (Int32.ofInt r26))))) &&& 0x7fffffffffffffff ≤ (0x7ff0000000000000 : UInt64) then
                  (Option.bind (F_dbits (gdb (FP.ddiv (gU64 (gdb (FP.i2d (Int32.ofInt r44)))) (gU64 (gdb (FP.i2d (Int32.ofInt r26))))))) (fun r50 =>
                    some r50))
                else none)))))))))))) := rfl
theorem ok_share {sh : gS} {M : gM} {a1 : Int} {b : Int} (hOK : gOK sh M) (h : F_share M a1 = some b) : gC (gr 2 89) yX12_share cX12_share 4 (some (.long)) [(4, 711), (0, a1)] sh M (gPq sh (some (1, b)) M) := by
  rw [eq_share] at h
  refine gC_ofA (lv := [_, _, _, _]) (by decide +kernel) (Nat.le_of_ble_eq_true rfl) rfl (fun hMw hav => ?_)
  refine g_iload_n (q0 := 1) (j := 1) rfl dX12_share_0 rfl ?_
  obtain ⟨r1, e1, h⟩ := gI_bd h
  refine g_callSq1 (as := [_]) (rest := []) mt_X12_isPlan ms_X12_isPlan ml_X12_433 dX12_share_1 (q0 := 4) rfl rfl (ok_isPlan hOK e1) rfl ⟨by decide, by decide⟩ (Nat.le_of_ble_eq_true rfl) ⟨Nat.zero_le _, Nat.zero_le _⟩ ?_
  refine g_if_ne (q0 := 7) (tgt := 11) rfl dX12_share_4 (by decide) (fun h4 => ?_) (fun h4 => ?_)
  · replace h := gI_neg h4 h
    refine g_aload_n (q0 := 12) (j := 0) rfl dX12_share_11 rfl ?_
    refine g_iload_n (q0 := 13) (j := 1) rfl dX12_share_12 rfl ?_
    obtain ⟨r13, e13, h⟩ := gI_bd h
    refine g_callVq1 (as := [_]) (rest := []) mt_X12_isToldPlan mi_X12_isToldPlan se_X12_isToldPlan ml_X12_449 dX12_share_13 (q0 := 16) rfl rfl (sh_711 hOK) rfl rfl (ok_isToldPlan hOK e13) rfl ⟨by decide, by decide⟩ (Nat.le_of_ble_eq_true rfl) ⟨Nat.zero_le _, Nat.zero_le _⟩ ?_
    refine g_if_ne (q0 := 19) (tgt := 23) rfl dX12_share_16 (by decide) (fun h16 => ?_) (fun h16 => ?_)
    · replace h := gI_neg h16 h
      refine g_aload_n (q0 := 24) (j := 0) rfl dX12_share_23 rfl ?_
      refine g_iload_n (q0 := 25) (j := 1) rfl dX12_share_24 rfl ?_
      refine g_iconst (q0 := 26) rfl dX12_share_25 (k := ?_)
      obtain ⟨r26, e26, h⟩ := gI_bd h
      refine g_callVq1 (as := [_, _]) (rest := []) mt_X12_mapped mi_X12_mapped se_X12_mapped ml_X12_458 dX12_share_26 (q0 := 29) rfl rfl (sh_711 hOK) rfl rfl (ok_mapped hOK e26) rfl ⟨by decide, by decide⟩ (Nat.le_of_ble_eq_true rfl) ⟨Nat.zero_le _, Nat.zero_le _⟩ ?_
      refine g_i2d (q0 := 30) rfl dX12_share_29 ?_
      refine g_dstore_n (q0 := 31) (j := 2) (lv2 := [_, _, _, _]) rfl dX12_share_30 (by decide) rfl rfl ?_
      refine g_dload_n (q0 := 32) (j := 2) rfl dX12_share_31 rfl ?_
      refine g_dconst0 (q0 := 33) rfl dX12_share_32 ?_
      refine g_dcmp (q0 := 34) rfl dX12_share_33 ?_
      refine g_if_ne (q0 := 37) (tgt := 41) rfl dX12_share_34 (by decide) (fun h34 => ?_) (fun h34 => ?_)
      · replace h := gI_neg h34 h
        refine g_aload_n (q0 := 42) (j := 0) rfl dX12_share_41 rfl ?_
        refine g_iload_n (q0 := 43) (j := 1) rfl dX12_share_42 rfl ?_
        refine g_iconst (q0 := 44) rfl dX12_share_43 (k := ?_)
        obtain ⟨r44, e44, h⟩ := gI_bd h
        refine g_callVq1 (as := [_, _]) (rest := []) mt_X12_mapped mi_X12_mapped se_X12_mapped ml_X12_458 dX12_share_44 (q0 := 47) rfl rfl (sh_711 hOK) rfl rfl (ok_mapped hOK e44) rfl ⟨by decide, by decide⟩ (Nat.le_of_ble_eq_true rfl) ⟨Nat.zero_le _, Nat.zero_le _⟩ ?_
        refine g_i2d (q0 := 48) rfl dX12_share_47 ?_
        refine g_dload_n (q0 := 49) (j := 2) rfl dX12_share_48 rfl ?_
        obtain ⟨g1, h⟩ := gI_gd h
        refine g_ddiv (q0 := 50) rfl dX12_share_49 g1 ?_
        obtain ⟨r50, e50, h⟩ := gI_bd h
        refine g_callSq1 (as := [_]) (rest := []) mt_Jxe99ae_doubleToLongBits_ccdee ms_Jxe99ae_doubleToLongBits_ccdee ml_X12_604 dX12_share_50 (q0 := 53) rfl rfl (ok_dbits hOK e50) rfl ⟨by decide, by decide⟩ (Nat.le_of_ble_eq_true rfl) ⟨Nat.zero_le _, Nat.zero_le _⟩ ?_
        rw [← Option.some.inj h]
        refine g_lreturn dX12_share_53 rfl ⟨Nat.zero_le _, Nat.zero_le _⟩ ?_
        exact ⟨rfl, rfl, rfl⟩
      · replace h := gI_pos h34 h
        refine g_dconst0 (q0 := 38) rfl dX12_share_37 ?_
        refine g_goto (tgt := 50) dX12_share_38 (by decide) ?_
        obtain ⟨r50, e50, h⟩ := gI_bd h
        refine g_callSq1 (as := [_]) (rest := []) mt_Jxe99ae_doubleToLongBits_ccdee ms_Jxe99ae_doubleToLongBits_ccdee ml_X12_604 dX12_share_50 (q0 := 53) rfl rfl (ok_dbits hOK e50) rfl ⟨by decide, by decide⟩ (Nat.le_of_ble_eq_true rfl) ⟨Nat.zero_le _, Nat.zero_le _⟩ ?_
        rw [← Option.some.inj h]
        refine g_lreturn dX12_share_53 rfl ⟨Nat.zero_le _, Nat.zero_le _⟩ ?_
        exact ⟨rfl, rfl, rfl⟩
    · replace h := gI_pos h16 h
      refine g_ldc2 (q0 := 22) (n := -3) rfl co_X12_602 dX12_share_19 (k := ?_)
      rw [← Option.some.inj h]
      refine g_lreturn dX12_share_22 rfl ⟨Nat.zero_le _, Nat.zero_le _⟩ ?_
      exact ⟨rfl, rfl, rfl⟩
  · replace h := gI_pos h4 h
    refine g_ldc2 (q0 := 10) (n := -1) rfl co_X12_600 dX12_share_7 (k := ?_)
    rw [← Option.some.inj h]
    refine g_lreturn dX12_share_10 rfl ⟨Nat.zero_le _, Nat.zero_le _⟩ ?_
    exact ⟨rfl, rfl, rfl⟩
-- ==== isKept
theorem dX12_isKept_0 : decode cX12_isKept 0 = .ok (.aload_n 0, 1) := by decide +kernel
theorem dX12_isKept_1 : decode cX12_isKept 1 = .ok (.getfield 84, 3) := by decide +kernel
theorem dX12_isKept_4 : decode cX12_isKept 4 = .ok (.iload_n 2, 1) := by decide +kernel
theorem dX12_isKept_5 : decode cX12_isKept 5 = .ok (.baload, 1) := by decide +kernel
theorem dX12_isKept_6 : decode cX12_isKept 6 = .ok (.ifCond .eq 21, 3) := by decide +kernel
theorem dX12_isKept_9 : decode cX12_isKept 9 = .ok (.aload_n 0, 1) := by decide +kernel
theorem dX12_isKept_10 : decode cX12_isKept 10 = .ok (.getfield 66, 3) := by decide +kernel
theorem dX12_isKept_13 : decode cX12_isKept 13 = .ok (.bipush 120, 2) := by decide +kernel
theorem dX12_isKept_15 : decode cX12_isKept 15 = .ok (.iload_n 1, 1) := by decide +kernel
theorem dX12_isKept_16 : decode cX12_isKept 16 = .ok (.imul, 1) := by decide +kernel
theorem dX12_isKept_17 : decode cX12_isKept 17 = .ok (.iload_n 2, 1) := by decide +kernel
theorem dX12_isKept_18 : decode cX12_isKept 18 = .ok (.iadd, 1) := by decide +kernel
theorem dX12_isKept_19 : decode cX12_isKept 19 = .ok (.iaload, 1) := by decide +kernel
theorem dX12_isKept_20 : decode cX12_isKept 20 = .ok (.ifCond .ne 7, 3) := by decide +kernel
theorem dX12_isKept_23 : decode cX12_isKept 23 = .ok (.iconst 1, 1) := by decide +kernel
theorem dX12_isKept_24 : decode cX12_isKept 24 = .ok (.goto 4, 3) := by decide +kernel
theorem dX12_isKept_27 : decode cX12_isKept 27 = .ok (.iconst 0, 1) := by decide +kernel
theorem dX12_isKept_28 : decode cX12_isKept 28 = .ok (.ireturn, 1) := by decide +kernel
noncomputable def F_isKept (M : gM) (a1 a2 : Int) : Option (Int) := (if 0 ≤ a2 ∧ a2 < 120 then
    (if (M 736 a2) = 0 then
      some 0
    else
      (if 0 ≤ (gw32 ((gw32 ((120 : Int) * a1)) + a2)) ∧ (gw32 ((gw32 ((120 : Int) * a1)) + a2)) < 480 then
        (if (M 730 (gw32 ((gw32 ((120 : Int) * a1)) + a2))) = 0 then
          some 1
        else
          some 0)
      else none))
  else none)
theorem eq_isKept (M : gM) (a1 a2 : Int) : F_isKept M a1 a2 = (if 0 ≤ a2 ∧ a2 < 120 then
    (if (M 736 a2) = 0 then
      some 0
    else
      (if 0 ≤ (gw32 ((gw32 ((120 : Int) * a1)) + a2)) ∧ (gw32 ((gw32 ((120 : Int) * a1)) + a2)) < 480 then
        (if (M 730 (gw32 ((gw32 ((120 : Int) * a1)) + a2))) = 0 then
          some 1
        else
          some 0)
      else none))
  else none) := rfl
theorem bo_isKept {M : gM} {a1 a2 : Int} {b : Int} (h : F_isKept M a1 a2 = some b) : b = 0 ∨ b = 1 := by
  rw [eq_isKept] at h
  obtain ⟨g1, h⟩ := gI_gd h
  rcases gI_or h with h | h
  · rw [← Option.some.inj h]
    exact (Or.inl rfl)
  · obtain ⟨g2, h⟩ := gI_gd h
    rcases gI_or h with h | h
    · rw [← Option.some.inj h]
      exact (Or.inr rfl)
    · rw [← Option.some.inj h]
      exact (Or.inl rfl)
theorem ok_isKept {sh : gS} {M : gM} {a1 a2 : Int} {b : Int} (hOK : gOK sh M) (h : F_isKept M a1 a2 = some b) : gC (gr 0 0) yX12_isKept cX12_isKept 3 (some (.boolean)) [(4, 711), (0, a1), (0, a2)] sh M (gPq sh (some (0, b)) M) := by
  rw [eq_isKept] at h
  refine gC_ofA (lv := [_, _, _]) (by decide +kernel) (Nat.le_of_ble_eq_true rfl) rfl (fun hMw hav => ?_)
  refine g_aload_n (q0 := 1) (j := 0) rfl dX12_isKept_0 rfl ?_
  refine g_getp (q0 := 4) (b := 736) rfl ff_X12_84 dX12_isKept_1 rfl hOK (by decide) (sh_711 hOK) rfl (by decide) ?_
  refine g_iload_n (q0 := 5) (j := 2) rfl dX12_isKept_4 rfl ?_
  obtain ⟨g1, h⟩ := gI_gd h
  refine g_zald (q0 := 6) rfl dX12_isKept_5 (sh_736 hOK) g1.1 g1.2 ?_
  refine g_if_eq (q0 := 9) (tgt := 27) rfl dX12_isKept_6 (by decide) (fun h6 => ?_) (fun h6 => ?_)
  · replace h := gI_pos h6 h
    refine g_iconst (q0 := 28) rfl dX12_isKept_27 (k := ?_)
    rw [← Option.some.inj h]
    refine g_zreturn dX12_isKept_28 rfl (gnz (Or.inl rfl)) ⟨Nat.zero_le _, Nat.zero_le _⟩ ?_
    exact ⟨rfl, rfl, rfl⟩
  · replace h := gI_neg h6 h
    refine g_aload_n (q0 := 10) (j := 0) rfl dX12_isKept_9 rfl ?_
    refine g_getp (q0 := 13) (b := 730) rfl ff_X12_66 dX12_isKept_10 rfl hOK (by decide) (sh_711 hOK) rfl (by decide) ?_
    refine g_bipush (q0 := 15) rfl dX12_isKept_13 (k := ?_)
    refine g_iload_n (q0 := 16) (j := 1) rfl dX12_isKept_15 rfl ?_
    refine g_imulw (q0 := 17) rfl dX12_isKept_16 ?_
    refine g_iload_n (q0 := 18) (j := 2) rfl dX12_isKept_17 rfl ?_
    refine g_iaddw (q0 := 19) rfl dX12_isKept_18 ?_
    obtain ⟨g2, h⟩ := gI_gd h
    refine g_iald (q0 := 20) rfl dX12_isKept_19 (sh_730 hOK) g2.1 g2.2 ?_
    refine g_if_ne (q0 := 23) (tgt := 27) rfl dX12_isKept_20 (by decide) (fun h20 => ?_) (fun h20 => ?_)
    · replace h := gI_neg h20 h
      refine g_iconst (q0 := 28) rfl dX12_isKept_27 (k := ?_)
      rw [← Option.some.inj h]
      refine g_zreturn dX12_isKept_28 rfl (gnz (Or.inl rfl)) ⟨Nat.zero_le _, Nat.zero_le _⟩ ?_
      exact ⟨rfl, rfl, rfl⟩
    · replace h := gI_pos h20 h
      refine g_iconst (q0 := 24) rfl dX12_isKept_23 (k := ?_)
      refine g_goto (tgt := 28) dX12_isKept_24 (by decide) ?_
      rw [← Option.some.inj h]
      refine g_zreturn dX12_isKept_28 rfl (gnz (Or.inr rfl)) ⟨Nat.zero_le _, Nat.zero_le _⟩ ?_
      exact ⟨rfl, rfl, rfl⟩
-- ==== isElderApart
theorem dX12_isElderApart_0 : decode cX12_isElderApart 0 = .ok (.iload_n 2, 1) := by decide +kernel
theorem dX12_isElderApart_1 : decode cX12_isElderApart 1 = .ok (.iload_n 3, 1) := by decide +kernel
theorem dX12_isElderApart_2 : decode cX12_isElderApart 2 = .ok (.if_icmp .lt 5, 3) := by decide +kernel
theorem dX12_isElderApart_5 : decode cX12_isElderApart 5 = .ok (.iconst 0, 1) := by decide +kernel
theorem dX12_isElderApart_6 : decode cX12_isElderApart 6 = .ok (.ireturn, 1) := by decide +kernel
theorem dX12_isElderApart_7 : decode cX12_isElderApart 7 = .ok (.aload_n 0, 1) := by decide +kernel
theorem dX12_isElderApart_8 : decode cX12_isElderApart 8 = .ok (.getfield 47, 3) := by decide +kernel
theorem dX12_isElderApart_11 : decode cX12_isElderApart 11 = .ok (.invokestatic 206, 3) := by decide +kernel
theorem dX12_isElderApart_14 : decode cX12_isElderApart 14 = .ok (.aload_n 0, 1) := by decide +kernel
theorem dX12_isElderApart_15 : decode cX12_isElderApart 15 = .ok (.getfield 47, 3) := by decide +kernel
theorem dX12_isElderApart_18 : decode cX12_isElderApart 18 = .ok (.iload_n 3, 1) := by decide +kernel
theorem dX12_isElderApart_19 : decode cX12_isElderApart 19 = .ok (.iconst 1, 1) := by decide +kernel
theorem dX12_isElderApart_20 : decode cX12_isElderApart 20 = .ok (.bastore, 1) := by decide +kernel
theorem dX12_isElderApart_21 : decode cX12_isElderApart 21 = .ok (.aload_n 0, 1) := by decide +kernel
theorem dX12_isElderApart_22 : decode cX12_isElderApart 22 = .ok (.iload_n 1, 1) := by decide +kernel
theorem dX12_isElderApart_23 : decode cX12_isElderApart 23 = .ok (.aload_n 0, 1) := by decide +kernel
theorem dX12_isElderApart_24 : decode cX12_isElderApart 24 = .ok (.getfield 47, 3) := by decide +kernel
theorem dX12_isElderApart_27 : decode cX12_isElderApart 27 = .ok (.invokevirtual 479, 3) := by decide +kernel
theorem dX12_isElderApart_30 : decode cX12_isElderApart 30 = .ok (.aload_n 0, 1) := by decide +kernel
theorem dX12_isElderApart_31 : decode cX12_isElderApart 31 = .ok (.getfield 47, 3) := by decide +kernel
theorem dX12_isElderApart_34 : decode cX12_isElderApart 34 = .ok (.iload_n 2, 1) := by decide +kernel
theorem dX12_isElderApart_35 : decode cX12_isElderApart 35 = .ok (.baload, 1) := by decide +kernel
theorem dX12_isElderApart_36 : decode cX12_isElderApart 36 = .ok (.ireturn, 1) := by decide +kernel
noncomputable def F_isElderApart (M : gM) (a1 a2 a3 : Int) : Option (Int × gM) := (if a2 < a3 then
    (Option.bind (F_clears M 724) (fun m11 =>
      (if 0 ≤ a3 ∧ a3 < 120 then
        (Option.bind (F_walksFore (gU m11 724 a3 1) a1 724) (fun m27 =>
          (if 0 ≤ a2 ∧ a2 < 120 then
            (if (m27 724 a2) = 0 ∨ (m27 724 a2) = 1 then
              some ((m27 724 a2), m27)
            else none)
          else none)))
      else none)))
  else
    some (0, M))
theorem eq_isElderApart (M : gM) (a1 a2 a3 : Int) : F_isElderApart M a1 a2 a3 = (if a2 < a3 then
    (Option.bind (F_clears M 724) (fun m11 =>
      (if 0 ≤ a3 ∧ a3 < 120 then
        (Option.bind (F_walksFore (gU m11 724 a3 1) a1 724) (fun m27 =>
          (if 0 ≤ a2 ∧ a2 < 120 then
            (if (m27 724 a2) = 0 ∨ (m27 724 a2) = 1 then
              some ((m27 724 a2), m27)
            else none)
          else none)))
      else none)))
  else
    some (0, M)) := rfl
theorem fr_isElderApart {M : gM} {a1 a2 a3 : Int} {b : Int × gM} (h : F_isElderApart M a1 a2 a3 = some b) : gFr [724] [] M b.2 := by
  rw [eq_isElderApart] at h
  rcases gI_or h with h | h
  · obtain ⟨m11, e11, h⟩ := gI_bd h
    obtain ⟨g2, h⟩ := gI_gd h
    obtain ⟨m27, e27, h⟩ := gI_bd h
    obtain ⟨g5, h⟩ := gI_gd h
    obtain ⟨g6, h⟩ := gI_gd h
    rw [← Option.some.inj h]
    exact (gFr_t (gFr_a (gFr_t (gFr_r [724] [] _) (fr_clears (b := m11) e11) (by first | decide | simp) (by decide)) (.head _) (by decide)) (fr_walksFore (b := m27) e27) (by first | decide | simp) (by decide))
  · rw [← Option.some.inj h]
    exact (gFr_r [724] [] _)
theorem bo_isElderApart {M : gM} {a1 a2 a3 : Int} {b : Int × gM} (h : F_isElderApart M a1 a2 a3 = some b) : b.1 = 0 ∨ b.1 = 1 := by
  rw [eq_isElderApart] at h
  rcases gI_or h with h | h
  · obtain ⟨m11, e11, h⟩ := gI_bd h
    obtain ⟨g2, h⟩ := gI_gd h
    obtain ⟨m27, e27, h⟩ := gI_bd h
    obtain ⟨g5, h⟩ := gI_gd h
    obtain ⟨g6, h⟩ := gI_gd h
    rw [← Option.some.inj h]
    exact g6
  · rw [← Option.some.inj h]
    exact (Or.inl rfl)
theorem ok_isElderApart {sh : gS} {M : gM} {a1 a2 a3 : Int} {b : Int × gM} (hOK : gOK sh M) (h : F_isElderApart M a1 a2 a3 = some b) : gC (gr 5 115) yX12_isElderApart cX12_isElderApart 4 (some (.boolean)) [(4, 711), (0, a1), (0, a2), (0, a3)] sh M (gPq sh (some (0, b.1)) b.2) := by
  rw [eq_isElderApart] at h
  refine gC_ofA (lv := [_, _, _, _]) (by decide +kernel) (Nat.le_of_ble_eq_true rfl) rfl (fun hMw hav => ?_)
  refine g_iload_n (q0 := 1) (j := 2) rfl dX12_isElderApart_0 rfl ?_
  refine g_iload_n (q0 := 2) (j := 3) rfl dX12_isElderApart_1 rfl ?_
  refine g_icmp_lt (q0 := 5) (tgt := 7) rfl dX12_isElderApart_2 (by decide) (fun h2 => ?_) (fun h2 => ?_)
  · replace h := gI_pos h2 h
    refine g_aload_n (q0 := 8) (j := 0) rfl dX12_isElderApart_7 rfl ?_
    refine g_getp (q0 := 11) (b := 724) rfl ff_X12_47 dX12_isElderApart_8 rfl hOK (by decide) (sh_711 hOK) rfl (by decide) ?_
    obtain ⟨m11, e11, h⟩ := gI_bd h
    refine g_callSq0 (as := [_]) (rest := []) mt_X12_clears ms_X12_clears ml_X12_206 dX12_isElderApart_11 (q0 := 14) rfl rfl (ok_clears hOK e11) rfl ⟨by decide, by decide⟩ (Nat.le_of_ble_eq_true rfl) ⟨Nat.zero_le _, Nat.zero_le _⟩ ?_
    have hOK1 : gOK sh m11 := gOK_fr hOK (fr_clears (b := m11) e11) (by first | decide | (intro a ha; simp only [List.mem_cons, List.not_mem_nil, or_false] at ha; omega)) (by decide)
    refine g_aload_n (q0 := 15) (j := 0) rfl dX12_isElderApart_14 rfl ?_
    refine g_getp (q0 := 18) (b := 724) rfl ff_X12_47 dX12_isElderApart_15 rfl hOK1 (by decide) (sh_711 hOK1) rfl (by decide) ?_
    refine g_iload_n (q0 := 19) (j := 3) rfl dX12_isElderApart_18 rfl ?_
    refine g_iconst (q0 := 20) rfl dX12_isElderApart_19 (k := ?_)
    obtain ⟨g2, h⟩ := gI_gd h
    refine g_zast (q0 := 21) rfl dX12_isElderApart_20 (sh_724 hOK1) g2.1 g2.2 (Or.inr rfl) ?_
    have hOK3 : gOK sh (gU m11 724 a3 1) := gOK_z hOK1 (sh_724 hOK1)
    refine g_aload_n (q0 := 22) (j := 0) rfl dX12_isElderApart_21 rfl ?_
    refine g_iload_n (q0 := 23) (j := 1) rfl dX12_isElderApart_22 rfl ?_
    refine g_aload_n (q0 := 24) (j := 0) rfl dX12_isElderApart_23 rfl ?_
    refine g_getp (q0 := 27) (b := 724) rfl ff_X12_47 dX12_isElderApart_24 rfl hOK3 (by decide) (sh_711 hOK3) rfl (by decide) ?_
    obtain ⟨m27, e27, h⟩ := gI_bd h
    refine g_callVq0 (as := [_, _]) (rest := []) mt_X12_walksFore mi_X12_walksFore se_X12_walksFore ml_X12_479 dX12_isElderApart_27 (q0 := 30) rfl rfl (sh_711 hOK3) rfl rfl (ok_walksFore hOK3 e27) rfl ⟨by decide, by decide⟩ (Nat.le_of_ble_eq_true rfl) ⟨Nat.zero_le _, Nat.zero_le _⟩ ?_
    have hOK4 : gOK sh m27 := gOK_fr hOK3 (fr_walksFore (b := m27) e27) (by first | decide | (intro a ha; simp only [List.mem_cons, List.not_mem_nil, or_false] at ha; omega)) (by decide)
    refine g_aload_n (q0 := 31) (j := 0) rfl dX12_isElderApart_30 rfl ?_
    refine g_getp (q0 := 34) (b := 724) rfl ff_X12_47 dX12_isElderApart_31 rfl hOK4 (by decide) (sh_711 hOK4) rfl (by decide) ?_
    refine g_iload_n (q0 := 35) (j := 2) rfl dX12_isElderApart_34 rfl ?_
    obtain ⟨g5, h⟩ := gI_gd h
    refine g_zald (q0 := 36) rfl dX12_isElderApart_35 (sh_724 hOK4) g5.1 g5.2 ?_
    obtain ⟨g6, h⟩ := gI_gd h
    rw [← Option.some.inj h]
    refine g_zreturn dX12_isElderApart_36 rfl (gnz g6) ⟨Nat.zero_le _, Nat.zero_le _⟩ ?_
    exact ⟨rfl, rfl, rfl⟩
  · replace h := gI_neg (Int.not_lt.mpr h2) h
    refine g_iconst (q0 := 6) rfl dX12_isElderApart_5 (k := ?_)
    rw [← Option.some.inj h]
    refine g_zreturn dX12_isElderApart_6 rfl (gnz (Or.inl rfl)) ⟨Nat.zero_le _, Nat.zero_le _⟩ ?_
    exact ⟨rfl, rfl, rfl⟩
-- ==== pairs
theorem dX12_pairs_0 : decode cX12_pairs 0 = .ok (.iconst 0, 1) := by decide +kernel
theorem dX12_pairs_1 : decode cX12_pairs 1 = .ok (.istore_n 3, 1) := by decide +kernel
theorem dX12_pairs_2 : decode cX12_pairs 2 = .ok (.iconst 0, 1) := by decide +kernel
theorem dX12_pairs_3 : decode cX12_pairs 3 = .ok (.istore 4, 2) := by decide +kernel
theorem dX12_pairs_5 : decode cX12_pairs 5 = .ok (.iload 4, 2) := by decide +kernel
theorem dX12_pairs_7 : decode cX12_pairs 7 = .ok (.aload_n 0, 1) := by decide +kernel
theorem dX12_pairs_8 : decode cX12_pairs 8 = .ok (.getfield 178, 3) := by decide +kernel
theorem dX12_pairs_11 : decode cX12_pairs 11 = .ok (.if_icmp .ge 145, 3) := by decide +kernel
theorem dX12_pairs_14 : decode cX12_pairs 14 = .ok (.aload_n 0, 1) := by decide +kernel
theorem dX12_pairs_15 : decode cX12_pairs 15 = .ok (.iload_n 1, 1) := by decide +kernel
theorem dX12_pairs_16 : decode cX12_pairs 16 = .ok (.iload 4, 2) := by decide +kernel
theorem dX12_pairs_18 : decode cX12_pairs 18 = .ok (.invokevirtual 610, 3) := by decide +kernel
theorem dX12_pairs_21 : decode cX12_pairs 21 = .ok (.ifCond .ne 6, 3) := by decide +kernel
theorem dX12_pairs_24 : decode cX12_pairs 24 = .ok (.goto 126, 3) := by decide +kernel
theorem dX12_pairs_27 : decode cX12_pairs 27 = .ok (.aload_n 0, 1) := by decide +kernel
theorem dX12_pairs_28 : decode cX12_pairs 28 = .ok (.iload_n 1, 1) := by decide +kernel
theorem dX12_pairs_29 : decode cX12_pairs 29 = .ok (.iload 4, 2) := by decide +kernel
theorem dX12_pairs_31 : decode cX12_pairs 31 = .ok (.invokevirtual 483, 3) := by decide +kernel
theorem dX12_pairs_34 : decode cX12_pairs 34 = .ok (.iconst 0, 1) := by decide +kernel
theorem dX12_pairs_35 : decode cX12_pairs 35 = .ok (.istore 5, 2) := by decide +kernel
theorem dX12_pairs_37 : decode cX12_pairs 37 = .ok (.iload 5, 2) := by decide +kernel
theorem dX12_pairs_39 : decode cX12_pairs 39 = .ok (.aload_n 0, 1) := by decide +kernel
theorem dX12_pairs_40 : decode cX12_pairs 40 = .ok (.getfield 178, 3) := by decide +kernel
theorem dX12_pairs_43 : decode cX12_pairs 43 = .ok (.if_icmp .ge 107, 3) := by decide +kernel
theorem dX12_pairs_46 : decode cX12_pairs 46 = .ok (.iload 5, 2) := by decide +kernel
theorem dX12_pairs_48 : decode cX12_pairs 48 = .ok (.iload 4, 2) := by decide +kernel
theorem dX12_pairs_50 : decode cX12_pairs 50 = .ok (.if_icmp .eq 94, 3) := by decide +kernel
theorem dX12_pairs_53 : decode cX12_pairs 53 = .ok (.aload_n 0, 1) := by decide +kernel
theorem dX12_pairs_54 : decode cX12_pairs 54 = .ok (.iload_n 1, 1) := by decide +kernel
theorem dX12_pairs_55 : decode cX12_pairs 55 = .ok (.iload 5, 2) := by decide +kernel
theorem dX12_pairs_57 : decode cX12_pairs 57 = .ok (.invokevirtual 610, 3) := by decide +kernel
theorem dX12_pairs_60 : decode cX12_pairs 60 = .ok (.ifCond .ne 6, 3) := by decide +kernel
theorem dX12_pairs_63 : decode cX12_pairs 63 = .ok (.goto 81, 3) := by decide +kernel
theorem dX12_pairs_66 : decode cX12_pairs 66 = .ok (.aload_n 0, 1) := by decide +kernel
theorem dX12_pairs_67 : decode cX12_pairs 67 = .ok (.aload_n 0, 1) := by decide +kernel
theorem dX12_pairs_68 : decode cX12_pairs 68 = .ok (.iload_n 1, 1) := by decide +kernel
theorem dX12_pairs_69 : decode cX12_pairs 69 = .ok (.iload 5, 2) := by decide +kernel
theorem dX12_pairs_71 : decode cX12_pairs 71 = .ok (.invokevirtual 513, 3) := by decide +kernel
theorem dX12_pairs_74 : decode cX12_pairs 74 = .ok (.aload_n 0, 1) := by decide +kernel
theorem dX12_pairs_75 : decode cX12_pairs 75 = .ok (.iload_n 1, 1) := by decide +kernel
theorem dX12_pairs_76 : decode cX12_pairs 76 = .ok (.iload 4, 2) := by decide +kernel
theorem dX12_pairs_78 : decode cX12_pairs 78 = .ok (.invokevirtual 513, 3) := by decide +kernel
theorem dX12_pairs_81 : decode cX12_pairs 81 = .ok (.invokevirtual 246, 3) := by decide +kernel
theorem dX12_pairs_84 : decode cX12_pairs 84 = .ok (.istore 6, 2) := by decide +kernel
theorem dX12_pairs_86 : decode cX12_pairs 86 = .ok (.iload_n 2, 1) := by decide +kernel
theorem dX12_pairs_87 : decode cX12_pairs 87 = .ok (.ifCond .eq 22, 3) := by decide +kernel
theorem dX12_pairs_90 : decode cX12_pairs 90 = .ok (.aload_n 0, 1) := by decide +kernel
theorem dX12_pairs_91 : decode cX12_pairs 91 = .ok (.getfield 72, 3) := by decide +kernel
theorem dX12_pairs_94 : decode cX12_pairs 94 = .ok (.iload 5, 2) := by decide +kernel
theorem dX12_pairs_96 : decode cX12_pairs 96 = .ok (.baload, 1) := by decide +kernel
theorem dX12_pairs_97 : decode cX12_pairs 97 = .ok (.ifCond .eq 12, 3) := by decide +kernel
theorem dX12_pairs_100 : decode cX12_pairs 100 = .ok (.iload 6, 2) := by decide +kernel
theorem dX12_pairs_102 : decode cX12_pairs 102 = .ok (.ifCond .ne 7, 3) := by decide +kernel
theorem dX12_pairs_105 : decode cX12_pairs 105 = .ok (.iload_n 3, 1) := by decide +kernel
theorem dX12_pairs_106 : decode cX12_pairs 106 = .ok (.iconst 1, 1) := by decide +kernel
theorem dX12_pairs_107 : decode cX12_pairs 107 = .ok (.iadd, 1) := by decide +kernel
theorem dX12_pairs_108 : decode cX12_pairs 108 = .ok (.istore_n 3, 1) := by decide +kernel
theorem dX12_pairs_109 : decode cX12_pairs 109 = .ok (.iload_n 2, 1) := by decide +kernel
theorem dX12_pairs_110 : decode cX12_pairs 110 = .ok (.ifCond .ne 34, 3) := by decide +kernel
theorem dX12_pairs_113 : decode cX12_pairs 113 = .ok (.iload 6, 2) := by decide +kernel
theorem dX12_pairs_115 : decode cX12_pairs 115 = .ok (.ifCond .eq 29, 3) := by decide +kernel
theorem dX12_pairs_118 : decode cX12_pairs 118 = .ok (.aload_n 0, 1) := by decide +kernel
theorem dX12_pairs_119 : decode cX12_pairs 119 = .ok (.getfield 72, 3) := by decide +kernel
theorem dX12_pairs_122 : decode cX12_pairs 122 = .ok (.iload 5, 2) := by decide +kernel
theorem dX12_pairs_124 : decode cX12_pairs 124 = .ok (.baload, 1) := by decide +kernel
theorem dX12_pairs_125 : decode cX12_pairs 125 = .ok (.ifCond .ne 19, 3) := by decide +kernel
theorem dX12_pairs_128 : decode cX12_pairs 128 = .ok (.aload_n 0, 1) := by decide +kernel
theorem dX12_pairs_129 : decode cX12_pairs 129 = .ok (.iload_n 1, 1) := by decide +kernel
theorem dX12_pairs_130 : decode cX12_pairs 130 = .ok (.iload 4, 2) := by decide +kernel
theorem dX12_pairs_132 : decode cX12_pairs 132 = .ok (.iload 5, 2) := by decide +kernel
theorem dX12_pairs_134 : decode cX12_pairs 134 = .ok (.invokevirtual 613, 3) := by decide +kernel
theorem dX12_pairs_137 : decode cX12_pairs 137 = .ok (.ifCond .ne 7, 3) := by decide +kernel
theorem dX12_pairs_140 : decode cX12_pairs 140 = .ok (.iload_n 3, 1) := by decide +kernel
theorem dX12_pairs_141 : decode cX12_pairs 141 = .ok (.iconst 1, 1) := by decide +kernel
theorem dX12_pairs_142 : decode cX12_pairs 142 = .ok (.iadd, 1) := by decide +kernel
theorem dX12_pairs_143 : decode cX12_pairs 143 = .ok (.istore_n 3, 1) := by decide +kernel
theorem dX12_pairs_144 : decode cX12_pairs 144 = .ok (.iinc 5 1, 3) := by decide +kernel
theorem dX12_pairs_147 : decode cX12_pairs 147 = .ok (.goto (-110), 3) := by decide +kernel
theorem dX12_pairs_150 : decode cX12_pairs 150 = .ok (.iinc 4 1, 3) := by decide +kernel
theorem dX12_pairs_153 : decode cX12_pairs 153 = .ok (.goto (-148), 3) := by decide +kernel
theorem dX12_pairs_156 : decode cX12_pairs 156 = .ok (.iload_n 3, 1) := by decide +kernel
theorem dX12_pairs_157 : decode cX12_pairs 157 = .ok (.ireturn, 1) := by decide +kernel
noncomputable def st_pairs : Nat × List Int × gM → Option ((Nat × List Int × gM) ⊕ (Int × gM))
  | (0, [x1, x2, x3, x4], M) => (if x4 < (M 711 0) then
      (Option.bind (F_isKept M x1 x4) (fun r18 =>
        (if r18 = 0 then
          some (.inl (0, [x1, x2, x3, (gw32 (x4 + 1))], M))
        else
          (Option.bind (F_marksElders M x1 x4) (fun m31 =>
            some (.inl (1, [x1, x2, x3, x4, 0], m31)))))))
    else
      some (.inr (x3, M)))
  | (1, [x1, x2, x3, x4, x5], M) => (if x5 < (M 711 0) then
      (if x5 = x4 then
        some (.inl (1, [x1, x2, x3, x4, (gw32 (x5 + 1))], M))
      else
        (Option.bind (F_isKept M x1 x5) (fun r57 =>
          (if r57 = 0 then
            some (.inl (1, [x1, x2, x3, x4, (gw32 (x5 + 1))], M))
          else
            (Option.bind (F_imageAt M x1 x5) (fun r71 =>
              (Option.bind (F_imageAt M x1 x4) (fun r78 =>
                (Option.bind (F_isAncestor M r71 r78) (fun p81 =>
                  (if x2 = 0 then
                    some (.inl (2, [x1, x2, x3, x4, x5, p81.1], p81.2))
                  else
                    (if 0 ≤ x5 ∧ x5 < 120 then
                      (if (p81.2 732 x5) = 0 then
                        some (.inl (2, [x1, x2, x3, x4, x5, p81.1], p81.2))
                      else
                        (if p81.1 = 0 then
                          some (.inl (2, [x1, x2, (gw32 (x3 + (1 : Int))), x4, x5, p81.1], p81.2))
                        else
                          some (.inl (2, [x1, x2, x3, x4, x5, p81.1], p81.2))))
                    else none))))))))))))
    else
      some (.inl (0, [x1, x2, x3, (gw32 (x4 + 1))], M)))
  | (2, [x1, x2, x3, x4, x5, x6], M) => (if x2 = 0 then
      (if x6 = 0 then
        some (.inl (1, [x1, x2, x3, x4, (gw32 (x5 + 1))], M))
      else
        (if 0 ≤ x5 ∧ x5 < 120 then
          (if (M 732 x5) = 0 then
            (Option.bind (F_isElderApart M x1 x4 x5) (fun p134 =>
              (if p134.1 = 0 then
                some (.inl (1, [x1, x2, (gw32 (x3 + (1 : Int))), x4, (gw32 (x5 + 1))], p134.2))
              else
                some (.inl (1, [x1, x2, x3, x4, (gw32 (x5 + 1))], p134.2)))))
          else
            some (.inl (1, [x1, x2, x3, x4, (gw32 (x5 + 1))], M)))
        else none))
    else
      some (.inl (1, [x1, x2, x3, x4, (gw32 (x5 + 1))], M)))
  | _ => none
theorem sk_pairs_5 (k : Nat × List Int × gM → Option (Int × gM)) (M : gM) (x1 x2 x3 x4 : Int) : gWk k (st_pairs (0, [x1, x2, x3, x4], M)) = (if x4 < (M 711 0) then
    (Option.bind (F_isKept M x1 x4) (fun r18 =>
      (if r18 = 0 then
        k (0, [x1, x2, x3, (gw32 (x4 + 1))], M)
      else
        (Option.bind (F_marksElders M x1 x4) (fun m31 =>
          k (1, [x1, x2, x3, x4, 0], m31))))))
  else
    some (x3, M)) := by
  simp only [st_pairs, gWk_ite, gWk_bind, gWk_inl, gWk_inr, gWk_none]
theorem sk_pairs_37 (k : Nat × List Int × gM → Option (Int × gM)) (M : gM) (x1 x2 x3 x4 x5 : Int) : gWk k (st_pairs (1, [x1, x2, x3, x4, x5], M)) = (if x5 < (M 711 0) then
    (if x5 = x4 then
      k (1, [x1, x2, x3, x4, (gw32 (x5 + 1))], M)
    else
      (Option.bind (F_isKept M x1 x5) (fun r57 =>
        (if r57 = 0 then
          k (1, [x1, x2, x3, x4, (gw32 (x5 + 1))], M)
        else
          (Option.bind (F_imageAt M x1 x5) (fun r71 =>
            (Option.bind (F_imageAt M x1 x4) (fun r78 =>
              (Option.bind (F_isAncestor M r71 r78) (fun p81 =>
                (if x2 = 0 then
                  k (2, [x1, x2, x3, x4, x5, p81.1], p81.2)
                else
                  (if 0 ≤ x5 ∧ x5 < 120 then
                    (if (p81.2 732 x5) = 0 then
                      k (2, [x1, x2, x3, x4, x5, p81.1], p81.2)
                    else
                      (if p81.1 = 0 then
                        k (2, [x1, x2, (gw32 (x3 + (1 : Int))), x4, x5, p81.1], p81.2)
                      else
                        k (2, [x1, x2, x3, x4, x5, p81.1], p81.2)))
                  else none))))))))))))
  else
    k (0, [x1, x2, x3, (gw32 (x4 + 1))], M)) := by
  simp only [st_pairs, gWk_ite, gWk_bind, gWk_inl, gWk_inr, gWk_none]
theorem sk_pairs_109 (k : Nat × List Int × gM → Option (Int × gM)) (M : gM) (x1 x2 x3 x4 x5 x6 : Int) : gWk k (st_pairs (2, [x1, x2, x3, x4, x5, x6], M)) = (if x2 = 0 then
    (if x6 = 0 then
      k (1, [x1, x2, x3, x4, (gw32 (x5 + 1))], M)
    else
      (if 0 ≤ x5 ∧ x5 < 120 then
        (if (M 732 x5) = 0 then
          (Option.bind (F_isElderApart M x1 x4 x5) (fun p134 =>
            (if p134.1 = 0 then
              k (1, [x1, x2, (gw32 (x3 + (1 : Int))), x4, (gw32 (x5 + 1))], p134.2)
            else
              k (1, [x1, x2, x3, x4, (gw32 (x5 + 1))], p134.2))))
        else
          k (1, [x1, x2, x3, x4, (gw32 (x5 + 1))], M))
      else none))
  else
    k (1, [x1, x2, x3, x4, (gw32 (x5 + 1))], M)) := by
  simp only [st_pairs, gWk_ite, gWk_bind, gWk_inl, gWk_inr, gWk_none]
noncomputable def F_pairs_5 (M : gM) (x1 x2 x3 x4 : Int) : Option (Int × gM) := gWh (st_pairs) (0, [x1, x2, x3, x4], M)
noncomputable def F_pairs_37 (M : gM) (x1 x2 x3 x4 x5 : Int) : Option (Int × gM) := gWh (st_pairs) (1, [x1, x2, x3, x4, x5], M)
noncomputable def F_pairs_109 (M : gM) (x1 x2 x3 x4 x5 x6 : Int) : Option (Int × gM) := gWh (st_pairs) (2, [x1, x2, x3, x4, x5, x6], M)
theorem eq_pairs_5 (M : gM) (x1 x2 x3 x4 : Int) : F_pairs_5 M x1 x2 x3 x4 = (if x4 < (M 711 0) then
    (Option.bind (F_isKept M x1 x4) (fun r18 =>
      (if r18 = 0 then
        F_pairs_5 M x1 x2 x3 (gw32 (x4 + 1))
      else
        (Option.bind (F_marksElders M x1 x4) (fun m31 =>
          F_pairs_37 m31 x1 x2 x3 x4 0)))))
  else
    some (x3, M)) := (gWh_eq _).trans (sk_pairs_5 _ M x1 x2 x3 x4)
theorem eq_pairs_37 (M : gM) (x1 x2 x3 x4 x5 : Int) : F_pairs_37 M x1 x2 x3 x4 x5 = (if x5 < (M 711 0) then
    (if x5 = x4 then
      F_pairs_37 M x1 x2 x3 x4 (gw32 (x5 + 1))
    else
      (Option.bind (F_isKept M x1 x5) (fun r57 =>
        (if r57 = 0 then
          F_pairs_37 M x1 x2 x3 x4 (gw32 (x5 + 1))
        else
          (Option.bind (F_imageAt M x1 x5) (fun r71 =>
            (Option.bind (F_imageAt M x1 x4) (fun r78 =>
              (Option.bind (F_isAncestor M r71 r78) (fun p81 =>
                (if x2 = 0 then
                  F_pairs_109 p81.2 x1 x2 x3 x4 x5 p81.1
                else
                  (if 0 ≤ x5 ∧ x5 < 120 then
                    (if (p81.2 732 x5) = 0 then
                      F_pairs_109 p81.2 x1 x2 x3 x4 x5 p81.1
                    else
                      (if p81.1 = 0 then
                        F_pairs_109 p81.2 x1 x2 (gw32 (x3 + (1 : Int))) x4 x5 p81.1
                      else
                        F_pairs_109 p81.2 x1 x2 x3 x4 x5 p81.1))
                  else none))))))))))))
  else
    F_pairs_5 M x1 x2 x3 (gw32 (x4 + 1))) := (gWh_eq _).trans (sk_pairs_37 _ M x1 x2 x3 x4 x5)
theorem eq_pairs_109 (M : gM) (x1 x2 x3 x4 x5 x6 : Int) : F_pairs_109 M x1 x2 x3 x4 x5 x6 = (if x2 = 0 then
    (if x6 = 0 then
      F_pairs_37 M x1 x2 x3 x4 (gw32 (x5 + 1))
    else
      (if 0 ≤ x5 ∧ x5 < 120 then
        (if (M 732 x5) = 0 then
          (Option.bind (F_isElderApart M x1 x4 x5) (fun p134 =>
            (if p134.1 = 0 then
              F_pairs_37 p134.2 x1 x2 (gw32 (x3 + (1 : Int))) x4 (gw32 (x5 + 1))
            else
              F_pairs_37 p134.2 x1 x2 x3 x4 (gw32 (x5 + 1)))))
        else
          F_pairs_37 M x1 x2 x3 x4 (gw32 (x5 + 1)))
      else none))
  else
    F_pairs_37 M x1 x2 x3 x4 (gw32 (x5 + 1))) := (gWh_eq _).trans (sk_pairs_109 _ M x1 x2 x3 x4 x5 x6)
noncomputable def F_pairs (M : gM) (a1 a2 : Int) : Option (Int × gM) := F_pairs_5 M a1 a2 0 0
theorem eq_pairs (M : gM) (a1 a2 : Int) : F_pairs M a1 a2 = F_pairs_5 M a1 a2 0 0 := rfl
theorem frp_pairs : ∀ (s : Nat × List Int × gM) (b : Int × gM), gWh (st_pairs) s = some b → (∀ (x1 x2 x3 x4 : Int) (M : gM), s = (0, [x1, x2, x3, x4], M) → gFr [723, 724, 732] [] M b.2) ∧ (∀ (x1 x2 x3 x4 x5 : Int) (M : gM), s = (1, [x1, x2, x3, x4, x5], M) → gFr [723, 724, 732] [] M b.2) ∧ (∀ (x1 x2 x3 x4 x5 x6 : Int) (M : gM), s = (2, [x1, x2, x3, x4, x5, x6], M) → gFr [723, 724, 732] [] M b.2) := by
  refine gWh_ind (fun k hk s b h => ⟨?_, ?_, ?_⟩)
  · rintro x1 x2 x3 x4 M rfl
    rw [sk_pairs_5] at h
    rcases gI_or h with h | h
    · obtain ⟨r18, e18, h⟩ := gI_bd h
      rcases gI_or h with h | h
      · exact gFr_t (gFr_r [723, 724, 732] [] _) ((hk _ _ h).1 _ _ _ _ _ rfl) (fun _ z => z) (fun _ z => z)
      · obtain ⟨m31, e31, h⟩ := gI_bd h
        exact gFr_t (gFr_t (gFr_r [723, 724, 732] [] _) (fr_marksElders (b := m31) e31) (by first | decide | simp) (by decide)) ((hk _ _ h).2.1 _ _ _ _ _ _ rfl) (fun _ z => z) (fun _ z => z)
    · rw [← Option.some.inj h]
      exact (gFr_r [723, 724, 732] [] _)
  · rintro x1 x2 x3 x4 x5 M rfl
    rw [sk_pairs_37] at h
    rcases gI_or h with h | h
    · rcases gI_or h with h | h
      · exact gFr_t (gFr_r [723, 724, 732] [] _) ((hk _ _ h).2.1 _ _ _ _ _ _ rfl) (fun _ z => z) (fun _ z => z)
      · obtain ⟨r57, e57, h⟩ := gI_bd h
        rcases gI_or h with h | h
        · exact gFr_t (gFr_r [723, 724, 732] [] _) ((hk _ _ h).2.1 _ _ _ _ _ _ rfl) (fun _ z => z) (fun _ z => z)
        · obtain ⟨r71, e71, h⟩ := gI_bd h
          obtain ⟨r78, e78, h⟩ := gI_bd h
          obtain ⟨p81, e81, h⟩ := gI_bd h
          rcases gI_or h with h | h
          · exact gFr_t (gFr_t (gFr_r [723, 724, 732] [] _) (fr_isAncestor (b := p81) e81) (by first | decide | simp) (by decide)) ((hk _ _ h).2.2 _ _ _ _ _ _ _ rfl) (fun _ z => z) (fun _ z => z)
          · obtain ⟨g3, h⟩ := gI_gd h
            rcases gI_or h with h | h
            · exact gFr_t (gFr_t (gFr_r [723, 724, 732] [] _) (fr_isAncestor (b := p81) e81) (by first | decide | simp) (by decide)) ((hk _ _ h).2.2 _ _ _ _ _ _ _ rfl) (fun _ z => z) (fun _ z => z)
            · rcases gI_or h with h | h
              · exact gFr_t (gFr_t (gFr_r [723, 724, 732] [] _) (fr_isAncestor (b := p81) e81) (by first | decide | simp) (by decide)) ((hk _ _ h).2.2 _ _ _ _ _ _ _ rfl) (fun _ z => z) (fun _ z => z)
              · exact gFr_t (gFr_t (gFr_r [723, 724, 732] [] _) (fr_isAncestor (b := p81) e81) (by first | decide | simp) (by decide)) ((hk _ _ h).2.2 _ _ _ _ _ _ _ rfl) (fun _ z => z) (fun _ z => z)
    · exact gFr_t (gFr_r [723, 724, 732] [] _) ((hk _ _ h).1 _ _ _ _ _ rfl) (fun _ z => z) (fun _ z => z)
  · rintro x1 x2 x3 x4 x5 x6 M rfl
    rw [sk_pairs_109] at h
    rcases gI_or h with h | h
    · rcases gI_or h with h | h
      · exact gFr_t (gFr_r [723, 724, 732] [] _) ((hk _ _ h).2.1 _ _ _ _ _ _ rfl) (fun _ z => z) (fun _ z => z)
      · obtain ⟨g4, h⟩ := gI_gd h
        rcases gI_or h with h | h
        · obtain ⟨p134, e134, h⟩ := gI_bd h
          rcases gI_or h with h | h
          · exact gFr_t (gFr_t (gFr_r [723, 724, 732] [] _) (fr_isElderApart (b := p134) e134) (by first | decide | simp) (by decide)) ((hk _ _ h).2.1 _ _ _ _ _ _ rfl) (fun _ z => z) (fun _ z => z)
          · exact gFr_t (gFr_t (gFr_r [723, 724, 732] [] _) (fr_isElderApart (b := p134) e134) (by first | decide | simp) (by decide)) ((hk _ _ h).2.1 _ _ _ _ _ _ rfl) (fun _ z => z) (fun _ z => z)
        · exact gFr_t (gFr_r [723, 724, 732] [] _) ((hk _ _ h).2.1 _ _ _ _ _ _ rfl) (fun _ z => z) (fun _ z => z)
    · exact gFr_t (gFr_r [723, 724, 732] [] _) ((hk _ _ h).2.1 _ _ _ _ _ _ rfl) (fun _ z => z) (fun _ z => z)
theorem fr_pairs_5 {M : gM} {x1 x2 x3 x4 : Int} {b : Int × gM} (h : F_pairs_5 M x1 x2 x3 x4 = some b) : gFr [723, 724, 732] [] M b.2 :=
  (frp_pairs _ _ h).1 _ _ _ _ _ rfl
theorem fr_pairs_37 {M : gM} {x1 x2 x3 x4 x5 : Int} {b : Int × gM} (h : F_pairs_37 M x1 x2 x3 x4 x5 = some b) : gFr [723, 724, 732] [] M b.2 :=
  (frp_pairs _ _ h).2.1 _ _ _ _ _ _ rfl
theorem fr_pairs_109 {M : gM} {x1 x2 x3 x4 x5 x6 : Int} {b : Int × gM} (h : F_pairs_109 M x1 x2 x3 x4 x5 x6 = some b) : gFr [723, 724, 732] [] M b.2 :=
  (frp_pairs _ _ h).2.2 _ _ _ _ _ _ _ rfl
theorem fr_pairs {M : gM} {a1 a2 : Int} {b : Int × gM} (h : F_pairs M a1 a2 = some b) : gFr [723, 724, 732] [] M b.2 := by
  rw [eq_pairs] at h
  exact gFr_t (gFr_r [723, 724, 732] [] _) (fr_pairs_5 h) (fun _ z => z) (fun _ z => z)
theorem okp_pairs {sh : gS} : ∀ (s : Nat × List Int × gM) (b : Int × gM), gWh (st_pairs) s = some b → (∀ (x1 x2 x3 x4 : Int) (M : gM), s = (0, [x1, x2, x3, x4], M) → gOK sh M → gA (gr 6 138) yX12_pairs cX12_pairs 7 (some (.int)) (gPq sh (some (0, b.1)) b.2) (0, 0) 5 [(4, 711), (0, x1), (0, x2), (0, x3), (0, x4), (9, 0), (9, 0)] [] sh M) ∧ (∀ (x1 x2 x3 x4 x5 : Int) (M : gM), s = (1, [x1, x2, x3, x4, x5], M) → gOK sh M → gA (gr 6 138) yX12_pairs cX12_pairs 7 (some (.int)) (gPq sh (some (0, b.1)) b.2) (0, 0) 37 [(4, 711), (0, x1), (0, x2), (0, x3), (0, x4), (0, x5), (9, 0)] [] sh M) ∧ (∀ (x1 x2 x3 x4 x5 x6 : Int) (M : gM), s = (2, [x1, x2, x3, x4, x5, x6], M) → gOK sh M → gA (gr 6 138) yX12_pairs cX12_pairs 7 (some (.int)) (gPq sh (some (0, b.1)) b.2) (0, 0) 109 [(4, 711), (0, x1), (0, x2), (0, x3), (0, x4), (0, x5), (0, x6)] [] sh M) := by
  refine gWh_ind (fun k hk s b h => ⟨?_, ?_, ?_⟩)
  · rintro x1 x2 x3 x4 M rfl hOK
    rw [sk_pairs_5] at h
    refine g_iload (q0 := 7) (j := 4) rfl dX12_pairs_5 rfl ?_
    refine g_aload_n (q0 := 8) (j := 0) rfl dX12_pairs_7 rfl ?_
    refine g_getf (q0 := 11) (t := 0) (fi := 0) rfl rfl ff_X12_178 dX12_pairs_8 rfl (sh_711 hOK) ?_
    refine g_icmp_ge (q0 := 14) (tgt := 156) rfl dX12_pairs_11 (by decide) (fun h11 => ?_) (fun h11 => ?_)
    · replace h := gI_neg (Int.not_lt.mpr h11) h
      refine g_iload_n (q0 := 157) (j := 3) rfl dX12_pairs_156 rfl ?_
      rw [← Option.some.inj h]
      refine g_ireturn dX12_pairs_157 rfl ⟨Nat.zero_le _, Nat.zero_le _⟩ ?_
      exact ⟨rfl, rfl, rfl⟩
    · replace h := gI_pos h11 h
      refine g_aload_n (q0 := 15) (j := 0) rfl dX12_pairs_14 rfl ?_
      refine g_iload_n (q0 := 16) (j := 1) rfl dX12_pairs_15 rfl ?_
      refine g_iload (q0 := 18) (j := 4) rfl dX12_pairs_16 rfl ?_
      obtain ⟨r18, e18, h⟩ := gI_bd h
      refine g_callVq1 (as := [_, _]) (rest := []) mt_X12_isKept mi_X12_isKept se_X12_isKept ml_X12_610 dX12_pairs_18 (q0 := 21) rfl rfl (sh_711 hOK) rfl rfl (ok_isKept hOK e18) rfl ⟨by decide, by decide⟩ (Nat.le_of_ble_eq_true rfl) ⟨Nat.zero_le _, Nat.zero_le _⟩ ?_
      refine g_if_ne (q0 := 24) (tgt := 27) rfl dX12_pairs_21 (by decide) (fun h21 => ?_) (fun h21 => ?_)
      · replace h := gI_neg h21 h
        refine g_aload_n (q0 := 28) (j := 0) rfl dX12_pairs_27 rfl ?_
        refine g_iload_n (q0 := 29) (j := 1) rfl dX12_pairs_28 rfl ?_
        refine g_iload (q0 := 31) (j := 4) rfl dX12_pairs_29 rfl ?_
        obtain ⟨m31, e31, h⟩ := gI_bd h
        refine g_callVq0 (as := [_, _]) (rest := []) mt_X12_marksElders mi_X12_marksElders se_X12_marksElders ml_X12_483 dX12_pairs_31 (q0 := 34) rfl rfl (sh_711 hOK) rfl rfl (ok_marksElders hOK e31) rfl ⟨by decide, by decide⟩ (Nat.le_of_ble_eq_true rfl) ⟨Nat.zero_le _, Nat.zero_le _⟩ ?_
        have hOK1 : gOK sh m31 := gOK_fr hOK (fr_marksElders (b := m31) e31) (by first | decide | (intro a ha; simp only [List.mem_cons, List.not_mem_nil, or_false] at ha; omega)) (by decide)
        refine g_iconst (q0 := 35) rfl dX12_pairs_34 (k := ?_)
        refine g_istore (q0 := 37) (j := 5) (lv2 := [_, _, _, _, _, _, _]) rfl dX12_pairs_35 (by decide) rfl rfl ?_
        exact (hk _ _ h).2.1 _ _ _ _ _ _ rfl hOK1
      · replace h := gI_pos h21 h
        refine g_goto (tgt := 150) dX12_pairs_24 (by decide) ?_
        refine g_iincw (q0 := 153) (lv2 := [_, _, _, _, _, _, _]) rfl dX12_pairs_150 rfl (by decide) rfl rfl ?_
        refine g_goto (tgt := 5) dX12_pairs_153 (by decide) ?_
        exact (hk _ _ h).1 _ _ _ _ _ rfl hOK
  · rintro x1 x2 x3 x4 x5 M rfl hOK
    rw [sk_pairs_37] at h
    refine g_iload (q0 := 39) (j := 5) rfl dX12_pairs_37 rfl ?_
    refine g_aload_n (q0 := 40) (j := 0) rfl dX12_pairs_39 rfl ?_
    refine g_getf (q0 := 43) (t := 0) (fi := 0) rfl rfl ff_X12_178 dX12_pairs_40 rfl (sh_711 hOK) ?_
    refine g_icmp_ge (q0 := 46) (tgt := 150) rfl dX12_pairs_43 (by decide) (fun h43 => ?_) (fun h43 => ?_)
    · replace h := gI_neg (Int.not_lt.mpr h43) h
      refine g_iincw (q0 := 153) (lv2 := [_, _, _, _, _, _, _]) rfl dX12_pairs_150 rfl (by decide) rfl rfl ?_
      refine g_goto (tgt := 5) dX12_pairs_153 (by decide) ?_
      refine gA_jk (lv1 := [_, _, _, _, _, (9, 0), (9, 0)]) ⟨.inl rfl, .inl rfl, .inl rfl, .inl rfl, .inl rfl, .inr rfl, .inr rfl, trivial⟩ ?_
      exact (hk _ _ h).1 _ _ _ _ _ rfl hOK
    · replace h := gI_pos h43 h
      refine g_iload (q0 := 48) (j := 5) rfl dX12_pairs_46 rfl ?_
      refine g_iload (q0 := 50) (j := 4) rfl dX12_pairs_48 rfl ?_
      refine g_icmp_eq (q0 := 53) (tgt := 144) rfl dX12_pairs_50 (by decide) (fun h50 => ?_) (fun h50 => ?_)
      · replace h := gI_pos h50 h
        refine g_iincw (q0 := 147) (lv2 := [_, _, _, _, _, _, _]) rfl dX12_pairs_144 rfl (by decide) rfl rfl ?_
        refine g_goto (tgt := 37) dX12_pairs_147 (by decide) ?_
        exact (hk _ _ h).2.1 _ _ _ _ _ _ rfl hOK
      · replace h := gI_neg h50 h
        refine g_aload_n (q0 := 54) (j := 0) rfl dX12_pairs_53 rfl ?_
        refine g_iload_n (q0 := 55) (j := 1) rfl dX12_pairs_54 rfl ?_
        refine g_iload (q0 := 57) (j := 5) rfl dX12_pairs_55 rfl ?_
        obtain ⟨r57, e57, h⟩ := gI_bd h
        refine g_callVq1 (as := [_, _]) (rest := []) mt_X12_isKept mi_X12_isKept se_X12_isKept ml_X12_610 dX12_pairs_57 (q0 := 60) rfl rfl (sh_711 hOK) rfl rfl (ok_isKept hOK e57) rfl ⟨by decide, by decide⟩ (Nat.le_of_ble_eq_true rfl) ⟨Nat.zero_le _, Nat.zero_le _⟩ ?_
        refine g_if_ne (q0 := 63) (tgt := 66) rfl dX12_pairs_60 (by decide) (fun h60 => ?_) (fun h60 => ?_)
        · replace h := gI_neg h60 h
          refine g_aload_n (q0 := 67) (j := 0) rfl dX12_pairs_66 rfl ?_
          refine g_aload_n (q0 := 68) (j := 0) rfl dX12_pairs_67 rfl ?_
          refine g_iload_n (q0 := 69) (j := 1) rfl dX12_pairs_68 rfl ?_
          refine g_iload (q0 := 71) (j := 5) rfl dX12_pairs_69 rfl ?_
          obtain ⟨r71, e71, h⟩ := gI_bd h
          refine g_callVq1 (as := [_, _]) (rest := [_]) mt_X12_imageAt mi_X12_imageAt se_X12_imageAt ml_X12_513 dX12_pairs_71 (q0 := 74) rfl rfl (sh_711 hOK) rfl rfl (ok_imageAt hOK e71) rfl ⟨by decide, by decide⟩ (Nat.le_of_ble_eq_true rfl) ⟨Nat.zero_le _, Nat.zero_le _⟩ ?_
          refine g_aload_n (q0 := 75) (j := 0) rfl dX12_pairs_74 rfl ?_
          refine g_iload_n (q0 := 76) (j := 1) rfl dX12_pairs_75 rfl ?_
          refine g_iload (q0 := 78) (j := 4) rfl dX12_pairs_76 rfl ?_
          obtain ⟨r78, e78, h⟩ := gI_bd h
          refine g_callVq1 (as := [_, _]) (rest := [_, _]) mt_X12_imageAt mi_X12_imageAt se_X12_imageAt ml_X12_513 dX12_pairs_78 (q0 := 81) rfl rfl (sh_711 hOK) rfl rfl (ok_imageAt hOK e78) rfl ⟨by decide, by decide⟩ (Nat.le_of_ble_eq_true rfl) ⟨Nat.zero_le _, Nat.zero_le _⟩ ?_
          obtain ⟨p81, e81, h⟩ := gI_bd h
          refine g_callVq1 (as := [_, _]) (rest := []) mt_X12_isAncestor mi_X12_isAncestor se_X12_isAncestor ml_X12_246 dX12_pairs_81 (q0 := 84) rfl rfl (sh_711 hOK) rfl rfl (ok_isAncestor hOK e81) rfl ⟨by decide, by decide⟩ (Nat.le_of_ble_eq_true rfl) ⟨Nat.zero_le _, Nat.zero_le _⟩ ?_
          have hOK2 : gOK sh p81.2 := gOK_fr hOK (fr_isAncestor (b := p81) e81) (by first | decide | (intro a ha; simp only [List.mem_cons, List.not_mem_nil, or_false] at ha; omega)) (by decide)
          refine g_istore (q0 := 86) (j := 6) (lv2 := [_, _, _, _, _, _, _]) rfl dX12_pairs_84 (by decide) rfl rfl ?_
          refine g_iload_n (q0 := 87) (j := 2) rfl dX12_pairs_86 rfl ?_
          refine g_if_eq (q0 := 90) (tgt := 109) rfl dX12_pairs_87 (by decide) (fun h87 => ?_) (fun h87 => ?_)
          · replace h := gI_pos h87 h
            exact (hk _ _ h).2.2 _ _ _ _ _ _ _ rfl hOK2
          · replace h := gI_neg h87 h
            refine g_aload_n (q0 := 91) (j := 0) rfl dX12_pairs_90 rfl ?_
            refine g_getp (q0 := 94) (b := 732) rfl ff_X12_72 dX12_pairs_91 rfl hOK2 (by decide) (sh_711 hOK2) rfl (by decide) ?_
            refine g_iload (q0 := 96) (j := 5) rfl dX12_pairs_94 rfl ?_
            obtain ⟨g3, h⟩ := gI_gd h
            refine g_zald (q0 := 97) rfl dX12_pairs_96 (sh_732 hOK2) g3.1 g3.2 ?_
            refine g_if_eq (q0 := 100) (tgt := 109) rfl dX12_pairs_97 (by decide) (fun h97 => ?_) (fun h97 => ?_)
            · replace h := gI_pos h97 h
              exact (hk _ _ h).2.2 _ _ _ _ _ _ _ rfl hOK2
            · replace h := gI_neg h97 h
              refine g_iload (q0 := 102) (j := 6) rfl dX12_pairs_100 rfl ?_
              refine g_if_ne (q0 := 105) (tgt := 109) rfl dX12_pairs_102 (by decide) (fun h102 => ?_) (fun h102 => ?_)
              · replace h := gI_neg h102 h
                exact (hk _ _ h).2.2 _ _ _ _ _ _ _ rfl hOK2
              · replace h := gI_pos h102 h
                refine g_iload_n (q0 := 106) (j := 3) rfl dX12_pairs_105 rfl ?_
                refine g_iconst (q0 := 107) rfl dX12_pairs_106 (k := ?_)
                refine g_iaddw (q0 := 108) rfl dX12_pairs_107 ?_
                refine g_istore_n (q0 := 109) (j := 3) (lv2 := [_, _, _, _, _, _, _]) rfl dX12_pairs_108 (by decide) rfl rfl ?_
                exact (hk _ _ h).2.2 _ _ _ _ _ _ _ rfl hOK2
        · replace h := gI_pos h60 h
          refine g_goto (tgt := 144) dX12_pairs_63 (by decide) ?_
          refine g_iincw (q0 := 147) (lv2 := [_, _, _, _, _, _, _]) rfl dX12_pairs_144 rfl (by decide) rfl rfl ?_
          refine g_goto (tgt := 37) dX12_pairs_147 (by decide) ?_
          exact (hk _ _ h).2.1 _ _ _ _ _ _ rfl hOK
  · rintro x1 x2 x3 x4 x5 x6 M rfl hOK
    rw [sk_pairs_109] at h
    refine g_iload_n (q0 := 110) (j := 2) rfl dX12_pairs_109 rfl ?_
    refine g_if_ne (q0 := 113) (tgt := 144) rfl dX12_pairs_110 (by decide) (fun h110 => ?_) (fun h110 => ?_)
    · replace h := gI_neg h110 h
      refine g_iincw (q0 := 147) (lv2 := [_, _, _, _, _, _, _]) rfl dX12_pairs_144 rfl (by decide) rfl rfl ?_
      refine g_goto (tgt := 37) dX12_pairs_147 (by decide) ?_
      refine gA_jk (lv1 := [_, _, _, _, _, _, (9, 0)]) ⟨.inl rfl, .inl rfl, .inl rfl, .inl rfl, .inl rfl, .inl rfl, .inr rfl, trivial⟩ ?_
      exact (hk _ _ h).2.1 _ _ _ _ _ _ rfl hOK
    · replace h := gI_pos h110 h
      refine g_iload (q0 := 115) (j := 6) rfl dX12_pairs_113 rfl ?_
      refine g_if_eq (q0 := 118) (tgt := 144) rfl dX12_pairs_115 (by decide) (fun h115 => ?_) (fun h115 => ?_)
      · replace h := gI_pos h115 h
        refine g_iincw (q0 := 147) (lv2 := [_, _, _, _, _, _, _]) rfl dX12_pairs_144 rfl (by decide) rfl rfl ?_
        refine g_goto (tgt := 37) dX12_pairs_147 (by decide) ?_
        refine gA_jk (lv1 := [_, _, _, _, _, _, (9, 0)]) ⟨.inl rfl, .inl rfl, .inl rfl, .inl rfl, .inl rfl, .inl rfl, .inr rfl, trivial⟩ ?_
        exact (hk _ _ h).2.1 _ _ _ _ _ _ rfl hOK
      · replace h := gI_neg h115 h
        refine g_aload_n (q0 := 119) (j := 0) rfl dX12_pairs_118 rfl ?_
        refine g_getp (q0 := 122) (b := 732) rfl ff_X12_72 dX12_pairs_119 rfl hOK (by decide) (sh_711 hOK) rfl (by decide) ?_
        refine g_iload (q0 := 124) (j := 5) rfl dX12_pairs_122 rfl ?_
        obtain ⟨g4, h⟩ := gI_gd h
        refine g_zald (q0 := 125) rfl dX12_pairs_124 (sh_732 hOK) g4.1 g4.2 ?_
        refine g_if_ne (q0 := 128) (tgt := 144) rfl dX12_pairs_125 (by decide) (fun h125 => ?_) (fun h125 => ?_)
        · replace h := gI_neg h125 h
          refine g_iincw (q0 := 147) (lv2 := [_, _, _, _, _, _, _]) rfl dX12_pairs_144 rfl (by decide) rfl rfl ?_
          refine g_goto (tgt := 37) dX12_pairs_147 (by decide) ?_
          refine gA_jk (lv1 := [_, _, _, _, _, _, (9, 0)]) ⟨.inl rfl, .inl rfl, .inl rfl, .inl rfl, .inl rfl, .inl rfl, .inr rfl, trivial⟩ ?_
          exact (hk _ _ h).2.1 _ _ _ _ _ _ rfl hOK
        · replace h := gI_pos h125 h
          refine g_aload_n (q0 := 129) (j := 0) rfl dX12_pairs_128 rfl ?_
          refine g_iload_n (q0 := 130) (j := 1) rfl dX12_pairs_129 rfl ?_
          refine g_iload (q0 := 132) (j := 4) rfl dX12_pairs_130 rfl ?_
          refine g_iload (q0 := 134) (j := 5) rfl dX12_pairs_132 rfl ?_
          obtain ⟨p134, e134, h⟩ := gI_bd h
          refine g_callVq1 (as := [_, _, _]) (rest := []) mt_X12_isElderApart mi_X12_isElderApart se_X12_isElderApart ml_X12_613 dX12_pairs_134 (q0 := 137) rfl rfl (sh_711 hOK) rfl rfl (ok_isElderApart hOK e134) rfl ⟨by decide, by decide⟩ (Nat.le_of_ble_eq_true rfl) ⟨Nat.zero_le _, Nat.zero_le _⟩ ?_
          have hOK5 : gOK sh p134.2 := gOK_fr hOK (fr_isElderApart (b := p134) e134) (by first | decide | (intro a ha; simp only [List.mem_cons, List.not_mem_nil, or_false] at ha; omega)) (by decide)
          refine g_if_ne (q0 := 140) (tgt := 144) rfl dX12_pairs_137 (by decide) (fun h137 => ?_) (fun h137 => ?_)
          · replace h := gI_neg h137 h
            refine g_iincw (q0 := 147) (lv2 := [_, _, _, _, _, _, _]) rfl dX12_pairs_144 rfl (by decide) rfl rfl ?_
            refine g_goto (tgt := 37) dX12_pairs_147 (by decide) ?_
            refine gA_jk (lv1 := [_, _, _, _, _, _, (9, 0)]) ⟨.inl rfl, .inl rfl, .inl rfl, .inl rfl, .inl rfl, .inl rfl, .inr rfl, trivial⟩ ?_
            exact (hk _ _ h).2.1 _ _ _ _ _ _ rfl hOK5
          · replace h := gI_pos h137 h
            refine g_iload_n (q0 := 141) (j := 3) rfl dX12_pairs_140 rfl ?_
            refine g_iconst (q0 := 142) rfl dX12_pairs_141 (k := ?_)
            refine g_iaddw (q0 := 143) rfl dX12_pairs_142 ?_
            refine g_istore_n (q0 := 144) (j := 3) (lv2 := [_, _, _, _, _, _, _]) rfl dX12_pairs_143 (by decide) rfl rfl ?_
            refine g_iincw (q0 := 147) (lv2 := [_, _, _, _, _, _, _]) rfl dX12_pairs_144 rfl (by decide) rfl rfl ?_
            refine g_goto (tgt := 37) dX12_pairs_147 (by decide) ?_
            refine gA_jk (lv1 := [_, _, _, _, _, _, (9, 0)]) ⟨.inl rfl, .inl rfl, .inl rfl, .inl rfl, .inl rfl, .inl rfl, .inr rfl, trivial⟩ ?_
            exact (hk _ _ h).2.1 _ _ _ _ _ _ rfl hOK5
theorem ok_pairs_5 {sh : gS} {M : gM} {x1 x2 x3 x4 : Int} {b : Int × gM} (hOK : gOK sh M) (h : F_pairs_5 M x1 x2 x3 x4 = some b) : gA (gr 6 138) yX12_pairs cX12_pairs 7 (some (.int)) (gPq sh (some (0, b.1)) b.2) (0, 0) 5 [(4, 711), (0, x1), (0, x2), (0, x3), (0, x4), (9, 0), (9, 0)] [] sh M :=
  (okp_pairs _ _ h).1 _ _ _ _ _ rfl hOK
theorem ok_pairs_37 {sh : gS} {M : gM} {x1 x2 x3 x4 x5 : Int} {b : Int × gM} (hOK : gOK sh M) (h : F_pairs_37 M x1 x2 x3 x4 x5 = some b) : gA (gr 6 138) yX12_pairs cX12_pairs 7 (some (.int)) (gPq sh (some (0, b.1)) b.2) (0, 0) 37 [(4, 711), (0, x1), (0, x2), (0, x3), (0, x4), (0, x5), (9, 0)] [] sh M :=
  (okp_pairs _ _ h).2.1 _ _ _ _ _ _ rfl hOK
theorem ok_pairs_109 {sh : gS} {M : gM} {x1 x2 x3 x4 x5 x6 : Int} {b : Int × gM} (hOK : gOK sh M) (h : F_pairs_109 M x1 x2 x3 x4 x5 x6 = some b) : gA (gr 6 138) yX12_pairs cX12_pairs 7 (some (.int)) (gPq sh (some (0, b.1)) b.2) (0, 0) 109 [(4, 711), (0, x1), (0, x2), (0, x3), (0, x4), (0, x5), (0, x6)] [] sh M :=
  (okp_pairs _ _ h).2.2 _ _ _ _ _ _ _ rfl hOK
theorem ok_pairs {sh : gS} {M : gM} {a1 a2 : Int} {b : Int × gM} (hOK : gOK sh M) (h : F_pairs M a1 a2 = some b) : gC (gr 6 138) yX12_pairs cX12_pairs 7 (some (.int)) [(4, 711), (0, a1), (0, a2)] sh M (gPq sh (some (0, b.1)) b.2) := by
  rw [eq_pairs] at h
  refine gC_ofA (lv := [_, _, _, _, _, _, _]) (by decide +kernel) (Nat.le_of_ble_eq_true rfl) rfl (fun hMw hav => ?_)
  refine g_iconst (q0 := 1) rfl dX12_pairs_0 (k := ?_)
  refine g_istore_n (q0 := 2) (j := 3) (lv2 := [_, _, _, _, _, _, _]) rfl dX12_pairs_1 (by decide) rfl rfl ?_
  refine g_iconst (q0 := 3) rfl dX12_pairs_2 (k := ?_)
  refine g_istore (q0 := 5) (j := 4) (lv2 := [_, _, _, _, _, _, _]) rfl dX12_pairs_3 (by decide) rfl rfl ?_
  exact ok_pairs_5 hOK h
-- ==== twins
theorem dX12_twins_0 : decode cX12_twins 0 = .ok (.iconst 0, 1) := by decide +kernel
theorem dX12_twins_1 : decode cX12_twins 1 = .ok (.istore_n 2, 1) := by decide +kernel
theorem dX12_twins_2 : decode cX12_twins 2 = .ok (.iconst 0, 1) := by decide +kernel
theorem dX12_twins_3 : decode cX12_twins 3 = .ok (.istore_n 3, 1) := by decide +kernel
theorem dX12_twins_4 : decode cX12_twins 4 = .ok (.iload_n 3, 1) := by decide +kernel
theorem dX12_twins_5 : decode cX12_twins 5 = .ok (.aload_n 0, 1) := by decide +kernel
theorem dX12_twins_6 : decode cX12_twins 6 = .ok (.getfield 178, 3) := by decide +kernel
theorem dX12_twins_9 : decode cX12_twins 9 = .ok (.if_icmp .ge 83, 3) := by decide +kernel
theorem dX12_twins_12 : decode cX12_twins 12 = .ok (.iconst 0, 1) := by decide +kernel
theorem dX12_twins_13 : decode cX12_twins 13 = .ok (.istore 4, 2) := by decide +kernel
theorem dX12_twins_15 : decode cX12_twins 15 = .ok (.iconst 0, 1) := by decide +kernel
theorem dX12_twins_16 : decode cX12_twins 16 = .ok (.istore 5, 2) := by decide +kernel
theorem dX12_twins_18 : decode cX12_twins 18 = .ok (.iload 5, 2) := by decide +kernel
theorem dX12_twins_20 : decode cX12_twins 20 = .ok (.iload_n 3, 1) := by decide +kernel
theorem dX12_twins_21 : decode cX12_twins 21 = .ok (.if_icmp .ge 56, 3) := by decide +kernel
theorem dX12_twins_24 : decode cX12_twins 24 = .ok (.aload_n 0, 1) := by decide +kernel
theorem dX12_twins_25 : decode cX12_twins 25 = .ok (.iload_n 1, 1) := by decide +kernel
theorem dX12_twins_26 : decode cX12_twins 26 = .ok (.iload_n 3, 1) := by decide +kernel
theorem dX12_twins_27 : decode cX12_twins 27 = .ok (.invokevirtual 610, 3) := by decide +kernel
theorem dX12_twins_30 : decode cX12_twins 30 = .ok (.ifCond .eq 47, 3) := by decide +kernel
theorem dX12_twins_33 : decode cX12_twins 33 = .ok (.iload 4, 2) := by decide +kernel
theorem dX12_twins_35 : decode cX12_twins 35 = .ok (.ifCond .ne 29, 3) := by decide +kernel
theorem dX12_twins_38 : decode cX12_twins 38 = .ok (.aload_n 0, 1) := by decide +kernel
theorem dX12_twins_39 : decode cX12_twins 39 = .ok (.iload_n 1, 1) := by decide +kernel
theorem dX12_twins_40 : decode cX12_twins 40 = .ok (.iload 5, 2) := by decide +kernel
theorem dX12_twins_42 : decode cX12_twins 42 = .ok (.invokevirtual 610, 3) := by decide +kernel
theorem dX12_twins_45 : decode cX12_twins 45 = .ok (.ifCond .eq 23, 3) := by decide +kernel
theorem dX12_twins_48 : decode cX12_twins 48 = .ok (.aload_n 0, 1) := by decide +kernel
theorem dX12_twins_49 : decode cX12_twins 49 = .ok (.iload_n 1, 1) := by decide +kernel
theorem dX12_twins_50 : decode cX12_twins 50 = .ok (.iload 5, 2) := by decide +kernel
theorem dX12_twins_52 : decode cX12_twins 52 = .ok (.invokevirtual 513, 3) := by decide +kernel
theorem dX12_twins_55 : decode cX12_twins 55 = .ok (.aload_n 0, 1) := by decide +kernel
theorem dX12_twins_56 : decode cX12_twins 56 = .ok (.iload_n 1, 1) := by decide +kernel
theorem dX12_twins_57 : decode cX12_twins 57 = .ok (.iload_n 3, 1) := by decide +kernel
theorem dX12_twins_58 : decode cX12_twins 58 = .ok (.invokevirtual 513, 3) := by decide +kernel
theorem dX12_twins_61 : decode cX12_twins 61 = .ok (.if_icmp .ne 7, 3) := by decide +kernel
theorem dX12_twins_64 : decode cX12_twins 64 = .ok (.iconst 1, 1) := by decide +kernel
theorem dX12_twins_65 : decode cX12_twins 65 = .ok (.goto 4, 3) := by decide +kernel
theorem dX12_twins_68 : decode cX12_twins 68 = .ok (.iconst 0, 1) := by decide +kernel
theorem dX12_twins_69 : decode cX12_twins 69 = .ok (.istore 4, 2) := by decide +kernel
theorem dX12_twins_71 : decode cX12_twins 71 = .ok (.iinc 5 1, 3) := by decide +kernel
theorem dX12_twins_74 : decode cX12_twins 74 = .ok (.goto (-56), 3) := by decide +kernel
theorem dX12_twins_77 : decode cX12_twins 77 = .ok (.iload 4, 2) := by decide +kernel
theorem dX12_twins_79 : decode cX12_twins 79 = .ok (.ifCond .eq 7, 3) := by decide +kernel
theorem dX12_twins_82 : decode cX12_twins 82 = .ok (.iload_n 2, 1) := by decide +kernel
theorem dX12_twins_83 : decode cX12_twins 83 = .ok (.iconst 1, 1) := by decide +kernel
theorem dX12_twins_84 : decode cX12_twins 84 = .ok (.iadd, 1) := by decide +kernel
theorem dX12_twins_85 : decode cX12_twins 85 = .ok (.istore_n 2, 1) := by decide +kernel
theorem dX12_twins_86 : decode cX12_twins 86 = .ok (.iinc 3 1, 3) := by decide +kernel
theorem dX12_twins_89 : decode cX12_twins 89 = .ok (.goto (-85), 3) := by decide +kernel
theorem dX12_twins_92 : decode cX12_twins 92 = .ok (.iload_n 2, 1) := by decide +kernel
theorem dX12_twins_93 : decode cX12_twins 93 = .ok (.ireturn, 1) := by decide +kernel
noncomputable def st_twins (M : gM) : Nat × List Int → Option ((Nat × List Int) ⊕ (Int))
  | (0, [x1, x2, x3]) => (if x3 < (M 711 0) then
      some (.inl (1, [x1, x2, x3, 0, 0]))
    else
      some (.inr x2))
  | (1, [x1, x2, x3, x4, x5]) => (if x5 < x3 then
      (Option.bind (F_isKept M x1 x3) (fun r27 =>
        (if r27 = 0 then
          (if x4 = 0 then
            some (.inl (0, [x1, x2, (gw32 (x3 + 1))]))
          else
            some (.inl (0, [x1, (gw32 (x2 + (1 : Int))), (gw32 (x3 + 1))])))
        else
          (if x4 = 0 then
            (Option.bind (F_isKept M x1 x5) (fun r42 =>
              (if r42 = 0 then
                some (.inl (1, [x1, x2, x3, 0, (gw32 (x5 + 1))]))
              else
                (Option.bind (F_imageAt M x1 x5) (fun r52 =>
                  (Option.bind (F_imageAt M x1 x3) (fun r58 =>
                    (if r52 = r58 then
                      some (.inl (1, [x1, x2, x3, 1, (gw32 (x5 + 1))]))
                    else
                      some (.inl (1, [x1, x2, x3, 0, (gw32 (x5 + 1))]))))))))))
          else
            some (.inl (1, [x1, x2, x3, 1, (gw32 (x5 + 1))]))))))
    else
      (if x4 = 0 then
        some (.inl (0, [x1, x2, (gw32 (x3 + 1))]))
      else
        some (.inl (0, [x1, (gw32 (x2 + (1 : Int))), (gw32 (x3 + 1))]))))
  | _ => none
theorem sk_twins_4 (k : Nat × List Int → Option (Int)) (M : gM) (x1 x2 x3 : Int) : gWk k (st_twins M (0, [x1, x2, x3])) = (if x3 < (M 711 0) then
    k (1, [x1, x2, x3, 0, 0])
  else
    some x2) := by
  simp only [st_twins, gWk_ite, gWk_bind, gWk_inl, gWk_inr, gWk_none]
theorem sk_twins_18 (k : Nat × List Int → Option (Int)) (M : gM) (x1 x2 x3 x4 x5 : Int) : gWk k (st_twins M (1, [x1, x2, x3, x4, x5])) = (if x5 < x3 then
    (Option.bind (F_isKept M x1 x3) (fun r27 =>
      (if r27 = 0 then
        (if x4 = 0 then
          k (0, [x1, x2, (gw32 (x3 + 1))])
        else
          k (0, [x1, (gw32 (x2 + (1 : Int))), (gw32 (x3 + 1))]))
      else
        (if x4 = 0 then
          (Option.bind (F_isKept M x1 x5) (fun r42 =>
            (if r42 = 0 then
              k (1, [x1, x2, x3, 0, (gw32 (x5 + 1))])
            else
              (Option.bind (F_imageAt M x1 x5) (fun r52 =>
                (Option.bind (F_imageAt M x1 x3) (fun r58 =>
                  (if r52 = r58 then
                    k (1, [x1, x2, x3, 1, (gw32 (x5 + 1))])
                  else
                    k (1, [x1, x2, x3, 0, (gw32 (x5 + 1))])))))))))
        else
          k (1, [x1, x2, x3, 1, (gw32 (x5 + 1))])))))
  else
    (if x4 = 0 then
      k (0, [x1, x2, (gw32 (x3 + 1))])
    else
      k (0, [x1, (gw32 (x2 + (1 : Int))), (gw32 (x3 + 1))]))) := by
  simp only [st_twins, gWk_ite, gWk_bind, gWk_inl, gWk_inr, gWk_none]
noncomputable def F_twins_4 (M : gM) (x1 x2 x3 : Int) : Option (Int) := gWh (st_twins M) (0, [x1, x2, x3])
noncomputable def F_twins_18 (M : gM) (x1 x2 x3 x4 x5 : Int) : Option (Int) := gWh (st_twins M) (1, [x1, x2, x3, x4, x5])
theorem eq_twins_4 (M : gM) (x1 x2 x3 : Int) : F_twins_4 M x1 x2 x3 = (if x3 < (M 711 0) then
    F_twins_18 M x1 x2 x3 0 0
  else
    some x2) := (gWh_eq _).trans (sk_twins_4 _ M x1 x2 x3)
theorem eq_twins_18 (M : gM) (x1 x2 x3 x4 x5 : Int) : F_twins_18 M x1 x2 x3 x4 x5 = (if x5 < x3 then
    (Option.bind (F_isKept M x1 x3) (fun r27 =>
      (if r27 = 0 then
        (if x4 = 0 then
          F_twins_4 M x1 x2 (gw32 (x3 + 1))
        else
          F_twins_4 M x1 (gw32 (x2 + (1 : Int))) (gw32 (x3 + 1)))
      else
        (if x4 = 0 then
          (Option.bind (F_isKept M x1 x5) (fun r42 =>
            (if r42 = 0 then
              F_twins_18 M x1 x2 x3 0 (gw32 (x5 + 1))
            else
              (Option.bind (F_imageAt M x1 x5) (fun r52 =>
                (Option.bind (F_imageAt M x1 x3) (fun r58 =>
                  (if r52 = r58 then
                    F_twins_18 M x1 x2 x3 1 (gw32 (x5 + 1))
                  else
                    F_twins_18 M x1 x2 x3 0 (gw32 (x5 + 1))))))))))
        else
          F_twins_18 M x1 x2 x3 1 (gw32 (x5 + 1))))))
  else
    (if x4 = 0 then
      F_twins_4 M x1 x2 (gw32 (x3 + 1))
    else
      F_twins_4 M x1 (gw32 (x2 + (1 : Int))) (gw32 (x3 + 1)))) := (gWh_eq _).trans (sk_twins_18 _ M x1 x2 x3 x4 x5)
noncomputable def F_twins (M : gM) (a1 : Int) : Option (Int) := F_twins_4 M a1 0 0
theorem eq_twins (M : gM) (a1 : Int) : F_twins M a1 = F_twins_4 M a1 0 0 := rfl
theorem okp_twins {sh : gS} {M : gM} : ∀ (s : Nat × List Int) (b : Int), gWh (st_twins M) s = some b → (∀ (x1 x2 x3 : Int), s = (0, [x1, x2, x3]) → gOK sh M → gA (gr 1 22) yX12_twins cX12_twins 6 (some (.int)) (gPq sh (some (0, b)) M) (0, 0) 4 [(4, 711), (0, x1), (0, x2), (0, x3), (9, 0), (9, 0)] [] sh M) ∧ (∀ (x1 x2 x3 x4 x5 : Int), s = (1, [x1, x2, x3, x4, x5]) → gOK sh M → gA (gr 1 22) yX12_twins cX12_twins 6 (some (.int)) (gPq sh (some (0, b)) M) (0, 0) 18 [(4, 711), (0, x1), (0, x2), (0, x3), (0, x4), (0, x5)] [] sh M) := by
  refine gWh_ind (fun k hk s b h => ⟨?_, ?_⟩)
  · rintro x1 x2 x3 rfl hOK
    rw [sk_twins_4] at h
    refine g_iload_n (q0 := 5) (j := 3) rfl dX12_twins_4 rfl ?_
    refine g_aload_n (q0 := 6) (j := 0) rfl dX12_twins_5 rfl ?_
    refine g_getf (q0 := 9) (t := 0) (fi := 0) rfl rfl ff_X12_178 dX12_twins_6 rfl (sh_711 hOK) ?_
    refine g_icmp_ge (q0 := 12) (tgt := 92) rfl dX12_twins_9 (by decide) (fun h9 => ?_) (fun h9 => ?_)
    · replace h := gI_neg (Int.not_lt.mpr h9) h
      refine g_iload_n (q0 := 93) (j := 2) rfl dX12_twins_92 rfl ?_
      rw [← Option.some.inj h]
      refine g_ireturn dX12_twins_93 rfl ⟨Nat.zero_le _, Nat.zero_le _⟩ ?_
      exact ⟨rfl, rfl, rfl⟩
    · replace h := gI_pos h9 h
      refine g_iconst (q0 := 13) rfl dX12_twins_12 (k := ?_)
      refine g_istore (q0 := 15) (j := 4) (lv2 := [_, _, _, _, _, _]) rfl dX12_twins_13 (by decide) rfl rfl ?_
      refine g_iconst (q0 := 16) rfl dX12_twins_15 (k := ?_)
      refine g_istore (q0 := 18) (j := 5) (lv2 := [_, _, _, _, _, _]) rfl dX12_twins_16 (by decide) rfl rfl ?_
      exact (hk _ _ h).2 _ _ _ _ _ rfl hOK
  · rintro x1 x2 x3 x4 x5 rfl hOK
    rw [sk_twins_18] at h
    refine g_iload (q0 := 20) (j := 5) rfl dX12_twins_18 rfl ?_
    refine g_iload_n (q0 := 21) (j := 3) rfl dX12_twins_20 rfl ?_
    refine g_icmp_ge (q0 := 24) (tgt := 77) rfl dX12_twins_21 (by decide) (fun h21 => ?_) (fun h21 => ?_)
    · replace h := gI_neg (Int.not_lt.mpr h21) h
      refine g_iload (q0 := 79) (j := 4) rfl dX12_twins_77 rfl ?_
      refine g_if_eq (q0 := 82) (tgt := 86) rfl dX12_twins_79 (by decide) (fun h79 => ?_) (fun h79 => ?_)
      · replace h := gI_pos h79 h
        refine g_iincw (q0 := 89) (lv2 := [_, _, _, _, _, _]) rfl dX12_twins_86 rfl (by decide) rfl rfl ?_
        refine g_goto (tgt := 4) dX12_twins_89 (by decide) ?_
        refine gA_jk (lv1 := [_, _, _, _, (9, 0), (9, 0)]) ⟨.inl rfl, .inl rfl, .inl rfl, .inl rfl, .inr rfl, .inr rfl, trivial⟩ ?_
        exact (hk _ _ h).1 _ _ _ rfl hOK
      · replace h := gI_neg h79 h
        refine g_iload_n (q0 := 83) (j := 2) rfl dX12_twins_82 rfl ?_
        refine g_iconst (q0 := 84) rfl dX12_twins_83 (k := ?_)
        refine g_iaddw (q0 := 85) rfl dX12_twins_84 ?_
        refine g_istore_n (q0 := 86) (j := 2) (lv2 := [_, _, _, _, _, _]) rfl dX12_twins_85 (by decide) rfl rfl ?_
        refine g_iincw (q0 := 89) (lv2 := [_, _, _, _, _, _]) rfl dX12_twins_86 rfl (by decide) rfl rfl ?_
        refine g_goto (tgt := 4) dX12_twins_89 (by decide) ?_
        refine gA_jk (lv1 := [_, _, _, _, (9, 0), (9, 0)]) ⟨.inl rfl, .inl rfl, .inl rfl, .inl rfl, .inr rfl, .inr rfl, trivial⟩ ?_
        exact (hk _ _ h).1 _ _ _ rfl hOK
    · replace h := gI_pos h21 h
      refine g_aload_n (q0 := 25) (j := 0) rfl dX12_twins_24 rfl ?_
      refine g_iload_n (q0 := 26) (j := 1) rfl dX12_twins_25 rfl ?_
      refine g_iload_n (q0 := 27) (j := 3) rfl dX12_twins_26 rfl ?_
      obtain ⟨r27, e27, h⟩ := gI_bd h
      refine g_callVq1 (as := [_, _]) (rest := []) mt_X12_isKept mi_X12_isKept se_X12_isKept ml_X12_610 dX12_twins_27 (q0 := 30) rfl rfl (sh_711 hOK) rfl rfl (ok_isKept hOK e27) rfl ⟨by decide, by decide⟩ (Nat.le_of_ble_eq_true rfl) ⟨Nat.zero_le _, Nat.zero_le _⟩ ?_
      refine g_if_eq (q0 := 33) (tgt := 77) rfl dX12_twins_30 (by decide) (fun h30 => ?_) (fun h30 => ?_)
      · replace h := gI_pos h30 h
        refine g_iload (q0 := 79) (j := 4) rfl dX12_twins_77 rfl ?_
        refine g_if_eq (q0 := 82) (tgt := 86) rfl dX12_twins_79 (by decide) (fun h79 => ?_) (fun h79 => ?_)
        · replace h := gI_pos h79 h
          refine g_iincw (q0 := 89) (lv2 := [_, _, _, _, _, _]) rfl dX12_twins_86 rfl (by decide) rfl rfl ?_
          refine g_goto (tgt := 4) dX12_twins_89 (by decide) ?_
          refine gA_jk (lv1 := [_, _, _, _, (9, 0), (9, 0)]) ⟨.inl rfl, .inl rfl, .inl rfl, .inl rfl, .inr rfl, .inr rfl, trivial⟩ ?_
          exact (hk _ _ h).1 _ _ _ rfl hOK
        · replace h := gI_neg h79 h
          refine g_iload_n (q0 := 83) (j := 2) rfl dX12_twins_82 rfl ?_
          refine g_iconst (q0 := 84) rfl dX12_twins_83 (k := ?_)
          refine g_iaddw (q0 := 85) rfl dX12_twins_84 ?_
          refine g_istore_n (q0 := 86) (j := 2) (lv2 := [_, _, _, _, _, _]) rfl dX12_twins_85 (by decide) rfl rfl ?_
          refine g_iincw (q0 := 89) (lv2 := [_, _, _, _, _, _]) rfl dX12_twins_86 rfl (by decide) rfl rfl ?_
          refine g_goto (tgt := 4) dX12_twins_89 (by decide) ?_
          refine gA_jk (lv1 := [_, _, _, _, (9, 0), (9, 0)]) ⟨.inl rfl, .inl rfl, .inl rfl, .inl rfl, .inr rfl, .inr rfl, trivial⟩ ?_
          exact (hk _ _ h).1 _ _ _ rfl hOK
      · replace h := gI_neg h30 h
        refine g_iload (q0 := 35) (j := 4) rfl dX12_twins_33 rfl ?_
        refine g_if_ne (q0 := 38) (tgt := 64) rfl dX12_twins_35 (by decide) (fun h35 => ?_) (fun h35 => ?_)
        · replace h := gI_neg h35 h
          refine g_iconst (q0 := 65) rfl dX12_twins_64 (k := ?_)
          refine g_goto (tgt := 69) dX12_twins_65 (by decide) ?_
          refine g_istore (q0 := 71) (j := 4) (lv2 := [_, _, _, _, _, _]) rfl dX12_twins_69 (by decide) rfl rfl ?_
          refine g_iincw (q0 := 74) (lv2 := [_, _, _, _, _, _]) rfl dX12_twins_71 rfl (by decide) rfl rfl ?_
          refine g_goto (tgt := 18) dX12_twins_74 (by decide) ?_
          exact (hk _ _ h).2 _ _ _ _ _ rfl hOK
        · replace h := gI_pos h35 h
          refine g_aload_n (q0 := 39) (j := 0) rfl dX12_twins_38 rfl ?_
          refine g_iload_n (q0 := 40) (j := 1) rfl dX12_twins_39 rfl ?_
          refine g_iload (q0 := 42) (j := 5) rfl dX12_twins_40 rfl ?_
          obtain ⟨r42, e42, h⟩ := gI_bd h
          refine g_callVq1 (as := [_, _]) (rest := []) mt_X12_isKept mi_X12_isKept se_X12_isKept ml_X12_610 dX12_twins_42 (q0 := 45) rfl rfl (sh_711 hOK) rfl rfl (ok_isKept hOK e42) rfl ⟨by decide, by decide⟩ (Nat.le_of_ble_eq_true rfl) ⟨Nat.zero_le _, Nat.zero_le _⟩ ?_
          refine g_if_eq (q0 := 48) (tgt := 68) rfl dX12_twins_45 (by decide) (fun h45 => ?_) (fun h45 => ?_)
          · replace h := gI_pos h45 h
            refine g_iconst (q0 := 69) rfl dX12_twins_68 (k := ?_)
            refine g_istore (q0 := 71) (j := 4) (lv2 := [_, _, _, _, _, _]) rfl dX12_twins_69 (by decide) rfl rfl ?_
            refine g_iincw (q0 := 74) (lv2 := [_, _, _, _, _, _]) rfl dX12_twins_71 rfl (by decide) rfl rfl ?_
            refine g_goto (tgt := 18) dX12_twins_74 (by decide) ?_
            exact (hk _ _ h).2 _ _ _ _ _ rfl hOK
          · replace h := gI_neg h45 h
            refine g_aload_n (q0 := 49) (j := 0) rfl dX12_twins_48 rfl ?_
            refine g_iload_n (q0 := 50) (j := 1) rfl dX12_twins_49 rfl ?_
            refine g_iload (q0 := 52) (j := 5) rfl dX12_twins_50 rfl ?_
            obtain ⟨r52, e52, h⟩ := gI_bd h
            refine g_callVq1 (as := [_, _]) (rest := []) mt_X12_imageAt mi_X12_imageAt se_X12_imageAt ml_X12_513 dX12_twins_52 (q0 := 55) rfl rfl (sh_711 hOK) rfl rfl (ok_imageAt hOK e52) rfl ⟨by decide, by decide⟩ (Nat.le_of_ble_eq_true rfl) ⟨Nat.zero_le _, Nat.zero_le _⟩ ?_
            refine g_aload_n (q0 := 56) (j := 0) rfl dX12_twins_55 rfl ?_
            refine g_iload_n (q0 := 57) (j := 1) rfl dX12_twins_56 rfl ?_
            refine g_iload_n (q0 := 58) (j := 3) rfl dX12_twins_57 rfl ?_
            obtain ⟨r58, e58, h⟩ := gI_bd h
            refine g_callVq1 (as := [_, _]) (rest := [_]) mt_X12_imageAt mi_X12_imageAt se_X12_imageAt ml_X12_513 dX12_twins_58 (q0 := 61) rfl rfl (sh_711 hOK) rfl rfl (ok_imageAt hOK e58) rfl ⟨by decide, by decide⟩ (Nat.le_of_ble_eq_true rfl) ⟨Nat.zero_le _, Nat.zero_le _⟩ ?_
            refine g_icmp_ne (q0 := 64) (tgt := 68) rfl dX12_twins_61 (by decide) (fun h61 => ?_) (fun h61 => ?_)
            · replace h := gI_neg h61 h
              refine g_iconst (q0 := 69) rfl dX12_twins_68 (k := ?_)
              refine g_istore (q0 := 71) (j := 4) (lv2 := [_, _, _, _, _, _]) rfl dX12_twins_69 (by decide) rfl rfl ?_
              refine g_iincw (q0 := 74) (lv2 := [_, _, _, _, _, _]) rfl dX12_twins_71 rfl (by decide) rfl rfl ?_
              refine g_goto (tgt := 18) dX12_twins_74 (by decide) ?_
              exact (hk _ _ h).2 _ _ _ _ _ rfl hOK
            · replace h := gI_pos h61 h
              refine g_iconst (q0 := 65) rfl dX12_twins_64 (k := ?_)
              refine g_goto (tgt := 69) dX12_twins_65 (by decide) ?_
              refine g_istore (q0 := 71) (j := 4) (lv2 := [_, _, _, _, _, _]) rfl dX12_twins_69 (by decide) rfl rfl ?_
              refine g_iincw (q0 := 74) (lv2 := [_, _, _, _, _, _]) rfl dX12_twins_71 rfl (by decide) rfl rfl ?_
              refine g_goto (tgt := 18) dX12_twins_74 (by decide) ?_
              exact (hk _ _ h).2 _ _ _ _ _ rfl hOK
theorem ok_twins_4 {sh : gS} {M : gM} {x1 x2 x3 : Int} {b : Int} (hOK : gOK sh M) (h : F_twins_4 M x1 x2 x3 = some b) : gA (gr 1 22) yX12_twins cX12_twins 6 (some (.int)) (gPq sh (some (0, b)) M) (0, 0) 4 [(4, 711), (0, x1), (0, x2), (0, x3), (9, 0), (9, 0)] [] sh M :=
  (okp_twins _ _ h).1 _ _ _ rfl hOK
theorem ok_twins_18 {sh : gS} {M : gM} {x1 x2 x3 x4 x5 : Int} {b : Int} (hOK : gOK sh M) (h : F_twins_18 M x1 x2 x3 x4 x5 = some b) : gA (gr 1 22) yX12_twins cX12_twins 6 (some (.int)) (gPq sh (some (0, b)) M) (0, 0) 18 [(4, 711), (0, x1), (0, x2), (0, x3), (0, x4), (0, x5)] [] sh M :=
  (okp_twins _ _ h).2 _ _ _ _ _ rfl hOK
theorem ok_twins {sh : gS} {M : gM} {a1 : Int} {b : Int} (hOK : gOK sh M) (h : F_twins M a1 = some b) : gC (gr 1 22) yX12_twins cX12_twins 6 (some (.int)) [(4, 711), (0, a1)] sh M (gPq sh (some (0, b)) M) := by
  rw [eq_twins] at h
  refine gC_ofA (lv := [_, _, _, _, _, _]) (by decide +kernel) (Nat.le_of_ble_eq_true rfl) rfl (fun hMw hav => ?_)
  refine g_iconst (q0 := 1) rfl dX12_twins_0 (k := ?_)
  refine g_istore_n (q0 := 2) (j := 2) (lv2 := [_, _, _, _, _, _]) rfl dX12_twins_1 (by decide) rfl rfl ?_
  refine g_iconst (q0 := 3) rfl dX12_twins_2 (k := ?_)
  refine g_istore_n (q0 := 4) (j := 3) (lv2 := [_, _, _, _, _, _]) rfl dX12_twins_3 (by decide) rfl rfl ?_
  exact ok_twins_4 hOK h
-- ==== lostByKept
theorem dX12_lostByKept_0 : decode cX12_lostByKept 0 = .ok (.iconst 0, 1) := by decide +kernel
theorem dX12_lostByKept_1 : decode cX12_lostByKept 1 = .ok (.istore_n 2, 1) := by decide +kernel
theorem dX12_lostByKept_2 : decode cX12_lostByKept 2 = .ok (.iconst 0, 1) := by decide +kernel
theorem dX12_lostByKept_3 : decode cX12_lostByKept 3 = .ok (.istore_n 3, 1) := by decide +kernel
theorem dX12_lostByKept_4 : decode cX12_lostByKept 4 = .ok (.iload_n 3, 1) := by decide +kernel
theorem dX12_lostByKept_5 : decode cX12_lostByKept 5 = .ok (.aload_n 0, 1) := by decide +kernel
theorem dX12_lostByKept_6 : decode cX12_lostByKept 6 = .ok (.getfield 178, 3) := by decide +kernel
theorem dX12_lostByKept_9 : decode cX12_lostByKept 9 = .ok (.if_icmp .ge 34, 3) := by decide +kernel
theorem dX12_lostByKept_12 : decode cX12_lostByKept 12 = .ok (.aload_n 0, 1) := by decide +kernel
theorem dX12_lostByKept_13 : decode cX12_lostByKept 13 = .ok (.iload_n 1, 1) := by decide +kernel
theorem dX12_lostByKept_14 : decode cX12_lostByKept 14 = .ok (.iload_n 3, 1) := by decide +kernel
theorem dX12_lostByKept_15 : decode cX12_lostByKept 15 = .ok (.invokevirtual 610, 3) := by decide +kernel
theorem dX12_lostByKept_18 : decode cX12_lostByKept 18 = .ok (.ifCond .ne 6, 3) := by decide +kernel
theorem dX12_lostByKept_21 : decode cX12_lostByKept 21 = .ok (.goto 16, 3) := by decide +kernel
theorem dX12_lostByKept_24 : decode cX12_lostByKept 24 = .ok (.aload_n 0, 1) := by decide +kernel
theorem dX12_lostByKept_25 : decode cX12_lostByKept 25 = .ok (.iload_n 1, 1) := by decide +kernel
theorem dX12_lostByKept_26 : decode cX12_lostByKept 26 = .ok (.iload_n 3, 1) := by decide +kernel
theorem dX12_lostByKept_27 : decode cX12_lostByKept 27 = .ok (.invokevirtual 561, 3) := by decide +kernel
theorem dX12_lostByKept_30 : decode cX12_lostByKept 30 = .ok (.iload_n 2, 1) := by decide +kernel
theorem dX12_lostByKept_31 : decode cX12_lostByKept 31 = .ok (.aload_n 0, 1) := by decide +kernel
theorem dX12_lostByKept_32 : decode cX12_lostByKept 32 = .ok (.getfield 495, 3) := by decide +kernel
theorem dX12_lostByKept_35 : decode cX12_lostByKept 35 = .ok (.iadd, 1) := by decide +kernel
theorem dX12_lostByKept_36 : decode cX12_lostByKept 36 = .ok (.istore_n 2, 1) := by decide +kernel
theorem dX12_lostByKept_37 : decode cX12_lostByKept 37 = .ok (.iinc 3 1, 3) := by decide +kernel
theorem dX12_lostByKept_40 : decode cX12_lostByKept 40 = .ok (.goto (-36), 3) := by decide +kernel
theorem dX12_lostByKept_43 : decode cX12_lostByKept 43 = .ok (.iload_n 2, 1) := by decide +kernel
theorem dX12_lostByKept_44 : decode cX12_lostByKept 44 = .ok (.ireturn, 1) := by decide +kernel
noncomputable def st_lostByKept : Nat × List Int × gM → Option ((Nat × List Int × gM) ⊕ (Int × gM))
  | (0, [x1, x2, x3], M) => (if x3 < (M 711 0) then
      (Option.bind (F_isKept M x1 x3) (fun r15 =>
        (if r15 = 0 then
          some (.inl (0, [x1, x2, (gw32 (x3 + 1))], M))
        else
          (Option.bind (F_carriesTree M x1 x3) (fun m27 =>
            some (.inl (0, [x1, (gw32 (x2 + (m27 711 33))), (gw32 (x3 + 1))], m27)))))))
    else
      some (.inr (x2, M)))
  | _ => none
theorem sk_lostByKept_4 (k : Nat × List Int × gM → Option (Int × gM)) (M : gM) (x1 x2 x3 : Int) : gWk k (st_lostByKept (0, [x1, x2, x3], M)) = (if x3 < (M 711 0) then
    (Option.bind (F_isKept M x1 x3) (fun r15 =>
      (if r15 = 0 then
        k (0, [x1, x2, (gw32 (x3 + 1))], M)
      else
        (Option.bind (F_carriesTree M x1 x3) (fun m27 =>
          k (0, [x1, (gw32 (x2 + (m27 711 33))), (gw32 (x3 + 1))], m27))))))
  else
    some (x2, M)) := by
  simp only [st_lostByKept, gWk_ite, gWk_bind, gWk_inl, gWk_inr, gWk_none]
noncomputable def F_lostByKept_4 (M : gM) (x1 x2 x3 : Int) : Option (Int × gM) := gWh (st_lostByKept) (0, [x1, x2, x3], M)
theorem eq_lostByKept_4 (M : gM) (x1 x2 x3 : Int) : F_lostByKept_4 M x1 x2 x3 = (if x3 < (M 711 0) then
    (Option.bind (F_isKept M x1 x3) (fun r15 =>
      (if r15 = 0 then
        F_lostByKept_4 M x1 x2 (gw32 (x3 + 1))
      else
        (Option.bind (F_carriesTree M x1 x3) (fun m27 =>
          F_lostByKept_4 m27 x1 (gw32 (x2 + (m27 711 33))) (gw32 (x3 + 1)))))))
  else
    some (x2, M)) := (gWh_eq _).trans (sk_lostByKept_4 _ M x1 x2 x3)
noncomputable def F_lostByKept (M : gM) (a1 : Int) : Option (Int × gM) := F_lostByKept_4 M a1 0 0
theorem eq_lostByKept (M : gM) (a1 : Int) : F_lostByKept M a1 = F_lostByKept_4 M a1 0 0 := rfl
theorem frp_lostByKept : ∀ (s : Nat × List Int × gM) (b : Int × gM), gWh (st_lostByKept) s = some b → (∀ (x1 x2 x3 : Int) (M : gM), s = (0, [x1, x2, x3], M) → gFr [718, 719, 720] [32, 33] M b.2) := by
  refine gWh_ind (fun k hk s b h => ?_)
  · rintro x1 x2 x3 M rfl
    rw [sk_lostByKept_4] at h
    rcases gI_or h with h | h
    · obtain ⟨r15, e15, h⟩ := gI_bd h
      rcases gI_or h with h | h
      · exact gFr_t (gFr_r [718, 719, 720] [32, 33] _) ((hk _ _ h) _ _ _ _ rfl) (fun _ z => z) (fun _ z => z)
      · obtain ⟨m27, e27, h⟩ := gI_bd h
        exact gFr_t (gFr_t (gFr_r [718, 719, 720] [32, 33] _) (fr_carriesTree (b := m27) e27) (by first | decide | simp) (by decide)) ((hk _ _ h) _ _ _ _ rfl) (fun _ z => z) (fun _ z => z)
    · rw [← Option.some.inj h]
      exact (gFr_r [718, 719, 720] [32, 33] _)
theorem fr_lostByKept_4 {M : gM} {x1 x2 x3 : Int} {b : Int × gM} (h : F_lostByKept_4 M x1 x2 x3 = some b) : gFr [718, 719, 720] [32, 33] M b.2 :=
  (frp_lostByKept _ _ h) _ _ _ _ rfl
theorem fr_lostByKept {M : gM} {a1 : Int} {b : Int × gM} (h : F_lostByKept M a1 = some b) : gFr [718, 719, 720] [32, 33] M b.2 := by
  rw [eq_lostByKept] at h
  exact gFr_t (gFr_r [718, 719, 720] [32, 33] _) (fr_lostByKept_4 h) (fun _ z => z) (fun _ z => z)
theorem okp_lostByKept {sh : gS} : ∀ (s : Nat × List Int × gM) (b : Int × gM), gWh (st_lostByKept) s = some b → (∀ (x1 x2 x3 : Int) (M : gM), s = (0, [x1, x2, x3], M) → gOK sh M → gA (gr 6 140) yX12_lostByKept cX12_lostByKept 4 (some (.int)) (gPq sh (some (0, b.1)) b.2) (0, 0) 4 [(4, 711), (0, x1), (0, x2), (0, x3)] [] sh M) := by
  refine gWh_ind (fun k hk s b h => ?_)
  · rintro x1 x2 x3 M rfl hOK
    rw [sk_lostByKept_4] at h
    refine g_iload_n (q0 := 5) (j := 3) rfl dX12_lostByKept_4 rfl ?_
    refine g_aload_n (q0 := 6) (j := 0) rfl dX12_lostByKept_5 rfl ?_
    refine g_getf (q0 := 9) (t := 0) (fi := 0) rfl rfl ff_X12_178 dX12_lostByKept_6 rfl (sh_711 hOK) ?_
    refine g_icmp_ge (q0 := 12) (tgt := 43) rfl dX12_lostByKept_9 (by decide) (fun h9 => ?_) (fun h9 => ?_)
    · replace h := gI_neg (Int.not_lt.mpr h9) h
      refine g_iload_n (q0 := 44) (j := 2) rfl dX12_lostByKept_43 rfl ?_
      rw [← Option.some.inj h]
      refine g_ireturn dX12_lostByKept_44 rfl ⟨Nat.zero_le _, Nat.zero_le _⟩ ?_
      exact ⟨rfl, rfl, rfl⟩
    · replace h := gI_pos h9 h
      refine g_aload_n (q0 := 13) (j := 0) rfl dX12_lostByKept_12 rfl ?_
      refine g_iload_n (q0 := 14) (j := 1) rfl dX12_lostByKept_13 rfl ?_
      refine g_iload_n (q0 := 15) (j := 3) rfl dX12_lostByKept_14 rfl ?_
      obtain ⟨r15, e15, h⟩ := gI_bd h
      refine g_callVq1 (as := [_, _]) (rest := []) mt_X12_isKept mi_X12_isKept se_X12_isKept ml_X12_610 dX12_lostByKept_15 (q0 := 18) rfl rfl (sh_711 hOK) rfl rfl (ok_isKept hOK e15) rfl ⟨by decide, by decide⟩ (Nat.le_of_ble_eq_true rfl) ⟨Nat.zero_le _, Nat.zero_le _⟩ ?_
      refine g_if_ne (q0 := 21) (tgt := 24) rfl dX12_lostByKept_18 (by decide) (fun h18 => ?_) (fun h18 => ?_)
      · replace h := gI_neg h18 h
        refine g_aload_n (q0 := 25) (j := 0) rfl dX12_lostByKept_24 rfl ?_
        refine g_iload_n (q0 := 26) (j := 1) rfl dX12_lostByKept_25 rfl ?_
        refine g_iload_n (q0 := 27) (j := 3) rfl dX12_lostByKept_26 rfl ?_
        obtain ⟨m27, e27, h⟩ := gI_bd h
        refine g_callVq0 (as := [_, _]) (rest := []) mt_X12_carriesTree mi_X12_carriesTree se_X12_carriesTree ml_X12_561 dX12_lostByKept_27 (q0 := 30) rfl rfl (sh_711 hOK) rfl rfl (ok_carriesTree hOK e27) rfl ⟨by decide, by decide⟩ (Nat.le_of_ble_eq_true rfl) ⟨Nat.zero_le _, Nat.zero_le _⟩ ?_
        have hOK1 : gOK sh m27 := gOK_fr hOK (fr_carriesTree (b := m27) e27) (by first | decide | (intro a ha; simp only [List.mem_cons, List.not_mem_nil, or_false] at ha; omega)) (by decide)
        refine g_iload_n (q0 := 31) (j := 2) rfl dX12_lostByKept_30 rfl ?_
        refine g_aload_n (q0 := 32) (j := 0) rfl dX12_lostByKept_31 rfl ?_
        refine g_getf (q0 := 35) (t := 0) (fi := 33) rfl rfl ff_X12_495 dX12_lostByKept_32 rfl (sh_711 hOK1) ?_
        refine g_iaddw (q0 := 36) rfl dX12_lostByKept_35 ?_
        refine g_istore_n (q0 := 37) (j := 2) (lv2 := [_, _, _, _]) rfl dX12_lostByKept_36 (by decide) rfl rfl ?_
        refine g_iincw (q0 := 40) (lv2 := [_, _, _, _]) rfl dX12_lostByKept_37 rfl (by decide) rfl rfl ?_
        refine g_goto (tgt := 4) dX12_lostByKept_40 (by decide) ?_
        exact (hk _ _ h) _ _ _ _ rfl hOK1
      · replace h := gI_pos h18 h
        refine g_goto (tgt := 37) dX12_lostByKept_21 (by decide) ?_
        refine g_iincw (q0 := 40) (lv2 := [_, _, _, _]) rfl dX12_lostByKept_37 rfl (by decide) rfl rfl ?_
        refine g_goto (tgt := 4) dX12_lostByKept_40 (by decide) ?_
        exact (hk _ _ h) _ _ _ _ rfl hOK
theorem ok_lostByKept_4 {sh : gS} {M : gM} {x1 x2 x3 : Int} {b : Int × gM} (hOK : gOK sh M) (h : F_lostByKept_4 M x1 x2 x3 = some b) : gA (gr 6 140) yX12_lostByKept cX12_lostByKept 4 (some (.int)) (gPq sh (some (0, b.1)) b.2) (0, 0) 4 [(4, 711), (0, x1), (0, x2), (0, x3)] [] sh M :=
  (okp_lostByKept _ _ h) _ _ _ _ rfl hOK
theorem ok_lostByKept {sh : gS} {M : gM} {a1 : Int} {b : Int × gM} (hOK : gOK sh M) (h : F_lostByKept M a1 = some b) : gC (gr 6 140) yX12_lostByKept cX12_lostByKept 4 (some (.int)) [(4, 711), (0, a1)] sh M (gPq sh (some (0, b.1)) b.2) := by
  rw [eq_lostByKept] at h
  refine gC_ofA (lv := [_, _, _, _]) (by decide +kernel) (Nat.le_of_ble_eq_true rfl) rfl (fun hMw hav => ?_)
  refine g_iconst (q0 := 1) rfl dX12_lostByKept_0 (k := ?_)
  refine g_istore_n (q0 := 2) (j := 2) (lv2 := [_, _, _, _]) rfl dX12_lostByKept_1 (by decide) rfl rfl ?_
  refine g_iconst (q0 := 3) rfl dX12_lostByKept_2 (k := ?_)
  refine g_istore_n (q0 := 4) (j := 3) (lv2 := [_, _, _, _]) rfl dX12_lostByKept_3 (by decide) rfl rfl ?_
  exact ok_lostByKept_4 hOK h
-- ==== thinned
theorem dX12_thinned_0 : decode cX12_thinned 0 = .ok (.iconst 0, 1) := by decide +kernel
theorem dX12_thinned_1 : decode cX12_thinned 1 = .ok (.istore_n 2, 1) := by decide +kernel
theorem dX12_thinned_2 : decode cX12_thinned 2 = .ok (.iconst 0, 1) := by decide +kernel
theorem dX12_thinned_3 : decode cX12_thinned 3 = .ok (.istore_n 3, 1) := by decide +kernel
theorem dX12_thinned_4 : decode cX12_thinned 4 = .ok (.iload_n 3, 1) := by decide +kernel
theorem dX12_thinned_5 : decode cX12_thinned 5 = .ok (.aload_n 0, 1) := by decide +kernel
theorem dX12_thinned_6 : decode cX12_thinned 6 = .ok (.getfield 178, 3) := by decide +kernel
theorem dX12_thinned_9 : decode cX12_thinned 9 = .ok (.if_icmp .ge 47, 3) := by decide +kernel
theorem dX12_thinned_12 : decode cX12_thinned 12 = .ok (.aload_n 0, 1) := by decide +kernel
theorem dX12_thinned_13 : decode cX12_thinned 13 = .ok (.iload_n 1, 1) := by decide +kernel
theorem dX12_thinned_14 : decode cX12_thinned 14 = .ok (.iload_n 3, 1) := by decide +kernel
theorem dX12_thinned_15 : decode cX12_thinned 15 = .ok (.invokevirtual 610, 3) := by decide +kernel
theorem dX12_thinned_18 : decode cX12_thinned 18 = .ok (.ifCond .eq 32, 3) := by decide +kernel
theorem dX12_thinned_21 : decode cX12_thinned 21 = .ok (.aload_n 0, 1) := by decide +kernel
theorem dX12_thinned_22 : decode cX12_thinned 22 = .ok (.iload_n 1, 1) := by decide +kernel
theorem dX12_thinned_23 : decode cX12_thinned 23 = .ok (.iload_n 3, 1) := by decide +kernel
theorem dX12_thinned_24 : decode cX12_thinned 24 = .ok (.invokevirtual 473, 3) := by decide +kernel
theorem dX12_thinned_27 : decode cX12_thinned 27 = .ok (.iconst 1, 1) := by decide +kernel
theorem dX12_thinned_28 : decode cX12_thinned 28 = .ok (.if_icmp .le 22, 3) := by decide +kernel
theorem dX12_thinned_31 : decode cX12_thinned 31 = .ok (.aload_n 0, 1) := by decide +kernel
theorem dX12_thinned_32 : decode cX12_thinned 32 = .ok (.getfield 7, 3) := by decide +kernel
theorem dX12_thinned_35 : decode cX12_thinned 35 = .ok (.aload_n 0, 1) := by decide +kernel
theorem dX12_thinned_36 : decode cX12_thinned 36 = .ok (.iload_n 1, 1) := by decide +kernel
theorem dX12_thinned_37 : decode cX12_thinned 37 = .ok (.iload_n 3, 1) := by decide +kernel
theorem dX12_thinned_38 : decode cX12_thinned 38 = .ok (.invokevirtual 513, 3) := by decide +kernel
theorem dX12_thinned_41 : decode cX12_thinned 41 = .ok (.iaload, 1) := by decide +kernel
theorem dX12_thinned_42 : decode cX12_thinned 42 = .ok (.iconst 2, 1) := by decide +kernel
theorem dX12_thinned_43 : decode cX12_thinned 43 = .ok (.if_icmp .ge 7, 3) := by decide +kernel
theorem dX12_thinned_46 : decode cX12_thinned 46 = .ok (.iload_n 2, 1) := by decide +kernel
theorem dX12_thinned_47 : decode cX12_thinned 47 = .ok (.iconst 1, 1) := by decide +kernel
theorem dX12_thinned_48 : decode cX12_thinned 48 = .ok (.iadd, 1) := by decide +kernel
theorem dX12_thinned_49 : decode cX12_thinned 49 = .ok (.istore_n 2, 1) := by decide +kernel
theorem dX12_thinned_50 : decode cX12_thinned 50 = .ok (.iinc 3 1, 3) := by decide +kernel
theorem dX12_thinned_53 : decode cX12_thinned 53 = .ok (.goto (-49), 3) := by decide +kernel
theorem dX12_thinned_56 : decode cX12_thinned 56 = .ok (.iload_n 2, 1) := by decide +kernel
theorem dX12_thinned_57 : decode cX12_thinned 57 = .ok (.ireturn, 1) := by decide +kernel
noncomputable def st_thinned (M : gM) : Nat × List Int → Option ((Nat × List Int) ⊕ (Int))
  | (0, [x1, x2, x3]) => (if x3 < (M 711 0) then
      (Option.bind (F_isKept M x1 x3) (fun r15 =>
        (if r15 = 0 then
          some (.inl (0, [x1, x2, (gw32 (x3 + 1))]))
        else
          (Option.bind (F_foreMany M x1 x3) (fun r24 =>
            (if (1 : Int) < r24 then
              (Option.bind (F_imageAt M x1 x3) (fun r38 =>
                (if 0 ≤ r38 ∧ r38 < 120 then
                  (if (M 712 r38) < 2 then
                    some (.inl (0, [x1, (gw32 (x2 + (1 : Int))), (gw32 (x3 + 1))]))
                  else
                    some (.inl (0, [x1, x2, (gw32 (x3 + 1))])))
                else none)))
            else
              some (.inl (0, [x1, x2, (gw32 (x3 + 1))]))))))))
    else
      some (.inr x2))
  | _ => none
theorem sk_thinned_4 (k : Nat × List Int → Option (Int)) (M : gM) (x1 x2 x3 : Int) : gWk k (st_thinned M (0, [x1, x2, x3])) = (if x3 < (M 711 0) then
    (Option.bind (F_isKept M x1 x3) (fun r15 =>
      (if r15 = 0 then
        k (0, [x1, x2, (gw32 (x3 + 1))])
      else
        (Option.bind (F_foreMany M x1 x3) (fun r24 =>
          (if (1 : Int) < r24 then
            (Option.bind (F_imageAt M x1 x3) (fun r38 =>
              (if 0 ≤ r38 ∧ r38 < 120 then
                (if (M 712 r38) < 2 then
                  k (0, [x1, (gw32 (x2 + (1 : Int))), (gw32 (x3 + 1))])
                else
                  k (0, [x1, x2, (gw32 (x3 + 1))]))
              else none)))
          else
            k (0, [x1, x2, (gw32 (x3 + 1))])))))))
  else
    some x2) := by
  simp only [st_thinned, gWk_ite, gWk_bind, gWk_inl, gWk_inr, gWk_none]
noncomputable def F_thinned_4 (M : gM) (x1 x2 x3 : Int) : Option (Int) := gWh (st_thinned M) (0, [x1, x2, x3])
theorem eq_thinned_4 (M : gM) (x1 x2 x3 : Int) : F_thinned_4 M x1 x2 x3 = (if x3 < (M 711 0) then
    (Option.bind (F_isKept M x1 x3) (fun r15 =>
      (if r15 = 0 then
        F_thinned_4 M x1 x2 (gw32 (x3 + 1))
      else
        (Option.bind (F_foreMany M x1 x3) (fun r24 =>
          (if (1 : Int) < r24 then
            (Option.bind (F_imageAt M x1 x3) (fun r38 =>
              (if 0 ≤ r38 ∧ r38 < 120 then
                (if (M 712 r38) < 2 then
                  F_thinned_4 M x1 (gw32 (x2 + (1 : Int))) (gw32 (x3 + 1))
                else
                  F_thinned_4 M x1 x2 (gw32 (x3 + 1)))
              else none)))
          else
            F_thinned_4 M x1 x2 (gw32 (x3 + 1))))))))
  else
    some x2) := (gWh_eq _).trans (sk_thinned_4 _ M x1 x2 x3)
noncomputable def F_thinned (M : gM) (a1 : Int) : Option (Int) := F_thinned_4 M a1 0 0
theorem eq_thinned (M : gM) (a1 : Int) : F_thinned M a1 = F_thinned_4 M a1 0 0 := rfl
theorem okp_thinned {sh : gS} {M : gM} : ∀ (s : Nat × List Int) (b : Int), gWh (st_thinned M) s = some b → (∀ (x1 x2 x3 : Int), s = (0, [x1, x2, x3]) → gOK sh M → gA (gr 4 89) yX12_thinned cX12_thinned 4 (some (.int)) (gPq sh (some (0, b)) M) (0, 0) 4 [(4, 711), (0, x1), (0, x2), (0, x3)] [] sh M) := by
  refine gWh_ind (fun k hk s b h => ?_)
  · rintro x1 x2 x3 rfl hOK
    rw [sk_thinned_4] at h
    refine g_iload_n (q0 := 5) (j := 3) rfl dX12_thinned_4 rfl ?_
    refine g_aload_n (q0 := 6) (j := 0) rfl dX12_thinned_5 rfl ?_
    refine g_getf (q0 := 9) (t := 0) (fi := 0) rfl rfl ff_X12_178 dX12_thinned_6 rfl (sh_711 hOK) ?_
    refine g_icmp_ge (q0 := 12) (tgt := 56) rfl dX12_thinned_9 (by decide) (fun h9 => ?_) (fun h9 => ?_)
    · replace h := gI_neg (Int.not_lt.mpr h9) h
      refine g_iload_n (q0 := 57) (j := 2) rfl dX12_thinned_56 rfl ?_
      rw [← Option.some.inj h]
      refine g_ireturn dX12_thinned_57 rfl ⟨Nat.zero_le _, Nat.zero_le _⟩ ?_
      exact ⟨rfl, rfl, rfl⟩
    · replace h := gI_pos h9 h
      refine g_aload_n (q0 := 13) (j := 0) rfl dX12_thinned_12 rfl ?_
      refine g_iload_n (q0 := 14) (j := 1) rfl dX12_thinned_13 rfl ?_
      refine g_iload_n (q0 := 15) (j := 3) rfl dX12_thinned_14 rfl ?_
      obtain ⟨r15, e15, h⟩ := gI_bd h
      refine g_callVq1 (as := [_, _]) (rest := []) mt_X12_isKept mi_X12_isKept se_X12_isKept ml_X12_610 dX12_thinned_15 (q0 := 18) rfl rfl (sh_711 hOK) rfl rfl (ok_isKept hOK e15) rfl ⟨by decide, by decide⟩ (Nat.le_of_ble_eq_true rfl) ⟨Nat.zero_le _, Nat.zero_le _⟩ ?_
      refine g_if_eq (q0 := 21) (tgt := 50) rfl dX12_thinned_18 (by decide) (fun h18 => ?_) (fun h18 => ?_)
      · replace h := gI_pos h18 h
        refine g_iincw (q0 := 53) (lv2 := [_, _, _, _]) rfl dX12_thinned_50 rfl (by decide) rfl rfl ?_
        refine g_goto (tgt := 4) dX12_thinned_53 (by decide) ?_
        exact (hk _ _ h) _ _ _ rfl hOK
      · replace h := gI_neg h18 h
        refine g_aload_n (q0 := 22) (j := 0) rfl dX12_thinned_21 rfl ?_
        refine g_iload_n (q0 := 23) (j := 1) rfl dX12_thinned_22 rfl ?_
        refine g_iload_n (q0 := 24) (j := 3) rfl dX12_thinned_23 rfl ?_
        obtain ⟨r24, e24, h⟩ := gI_bd h
        refine g_callVq1 (as := [_, _]) (rest := []) mt_X12_foreMany mi_X12_foreMany se_X12_foreMany ml_X12_473 dX12_thinned_24 (q0 := 27) rfl rfl (sh_711 hOK) rfl rfl (ok_foreMany hOK e24) rfl ⟨by decide, by decide⟩ (Nat.le_of_ble_eq_true rfl) ⟨Nat.zero_le _, Nat.zero_le _⟩ ?_
        refine g_iconst (q0 := 28) rfl dX12_thinned_27 (k := ?_)
        refine g_icmp_le (q0 := 31) (tgt := 50) rfl dX12_thinned_28 (by decide) (fun h28 => ?_) (fun h28 => ?_)
        · replace h := gI_neg (Int.not_lt.mpr h28) h
          refine g_iincw (q0 := 53) (lv2 := [_, _, _, _]) rfl dX12_thinned_50 rfl (by decide) rfl rfl ?_
          refine g_goto (tgt := 4) dX12_thinned_53 (by decide) ?_
          exact (hk _ _ h) _ _ _ rfl hOK
        · replace h := gI_pos h28 h
          refine g_aload_n (q0 := 32) (j := 0) rfl dX12_thinned_31 rfl ?_
          refine g_getp (q0 := 35) (b := 712) rfl ff_X12_7 dX12_thinned_32 rfl hOK (by decide) (sh_711 hOK) rfl (by decide) ?_
          refine g_aload_n (q0 := 36) (j := 0) rfl dX12_thinned_35 rfl ?_
          refine g_iload_n (q0 := 37) (j := 1) rfl dX12_thinned_36 rfl ?_
          refine g_iload_n (q0 := 38) (j := 3) rfl dX12_thinned_37 rfl ?_
          obtain ⟨r38, e38, h⟩ := gI_bd h
          refine g_callVq1 (as := [_, _]) (rest := [_]) mt_X12_imageAt mi_X12_imageAt se_X12_imageAt ml_X12_513 dX12_thinned_38 (q0 := 41) rfl rfl (sh_711 hOK) rfl rfl (ok_imageAt hOK e38) rfl ⟨by decide, by decide⟩ (Nat.le_of_ble_eq_true rfl) ⟨Nat.zero_le _, Nat.zero_le _⟩ ?_
          obtain ⟨g1, h⟩ := gI_gd h
          refine g_iald (q0 := 42) rfl dX12_thinned_41 (sh_712 hOK) g1.1 g1.2 ?_
          refine g_iconst (q0 := 43) rfl dX12_thinned_42 (k := ?_)
          refine g_icmp_ge (q0 := 46) (tgt := 50) rfl dX12_thinned_43 (by decide) (fun h43 => ?_) (fun h43 => ?_)
          · replace h := gI_neg (Int.not_lt.mpr h43) h
            refine g_iincw (q0 := 53) (lv2 := [_, _, _, _]) rfl dX12_thinned_50 rfl (by decide) rfl rfl ?_
            refine g_goto (tgt := 4) dX12_thinned_53 (by decide) ?_
            exact (hk _ _ h) _ _ _ rfl hOK
          · replace h := gI_pos h43 h
            refine g_iload_n (q0 := 47) (j := 2) rfl dX12_thinned_46 rfl ?_
            refine g_iconst (q0 := 48) rfl dX12_thinned_47 (k := ?_)
            refine g_iaddw (q0 := 49) rfl dX12_thinned_48 ?_
            refine g_istore_n (q0 := 50) (j := 2) (lv2 := [_, _, _, _]) rfl dX12_thinned_49 (by decide) rfl rfl ?_
            refine g_iincw (q0 := 53) (lv2 := [_, _, _, _]) rfl dX12_thinned_50 rfl (by decide) rfl rfl ?_
            refine g_goto (tgt := 4) dX12_thinned_53 (by decide) ?_
            exact (hk _ _ h) _ _ _ rfl hOK
theorem ok_thinned_4 {sh : gS} {M : gM} {x1 x2 x3 : Int} {b : Int} (hOK : gOK sh M) (h : F_thinned_4 M x1 x2 x3 = some b) : gA (gr 4 89) yX12_thinned cX12_thinned 4 (some (.int)) (gPq sh (some (0, b)) M) (0, 0) 4 [(4, 711), (0, x1), (0, x2), (0, x3)] [] sh M :=
  (okp_thinned _ _ h) _ _ _ rfl hOK
theorem ok_thinned {sh : gS} {M : gM} {a1 : Int} {b : Int} (hOK : gOK sh M) (h : F_thinned M a1 = some b) : gC (gr 4 89) yX12_thinned cX12_thinned 4 (some (.int)) [(4, 711), (0, a1)] sh M (gPq sh (some (0, b)) M) := by
  rw [eq_thinned] at h
  refine gC_ofA (lv := [_, _, _, _]) (by decide +kernel) (Nat.le_of_ble_eq_true rfl) rfl (fun hMw hav => ?_)
  refine g_iconst (q0 := 1) rfl dX12_thinned_0 (k := ?_)
  refine g_istore_n (q0 := 2) (j := 2) (lv2 := [_, _, _, _]) rfl dX12_thinned_1 (by decide) rfl rfl ?_
  refine g_iconst (q0 := 3) rfl dX12_thinned_2 (k := ?_)
  refine g_istore_n (q0 := 4) (j := 3) (lv2 := [_, _, _, _]) rfl dX12_thinned_3 (by decide) rfl rfl ?_
  exact ok_thinned_4 hOK h
-- ==== notMapped
theorem dX12_notMapped_0 : decode cX12_notMapped 0 = .ok (.iconst 0, 1) := by decide +kernel
theorem dX12_notMapped_1 : decode cX12_notMapped 1 = .ok (.istore_n 2, 1) := by decide +kernel
theorem dX12_notMapped_2 : decode cX12_notMapped 2 = .ok (.iconst 0, 1) := by decide +kernel
theorem dX12_notMapped_3 : decode cX12_notMapped 3 = .ok (.istore_n 3, 1) := by decide +kernel
theorem dX12_notMapped_4 : decode cX12_notMapped 4 = .ok (.iload_n 3, 1) := by decide +kernel
theorem dX12_notMapped_5 : decode cX12_notMapped 5 = .ok (.aload_n 0, 1) := by decide +kernel
theorem dX12_notMapped_6 : decode cX12_notMapped 6 = .ok (.getfield 178, 3) := by decide +kernel
theorem dX12_notMapped_9 : decode cX12_notMapped 9 = .ok (.if_icmp .ge 37, 3) := by decide +kernel
theorem dX12_notMapped_12 : decode cX12_notMapped 12 = .ok (.aload_n 0, 1) := by decide +kernel
theorem dX12_notMapped_13 : decode cX12_notMapped 13 = .ok (.getfield 84, 3) := by decide +kernel
theorem dX12_notMapped_16 : decode cX12_notMapped 16 = .ok (.iload_n 3, 1) := by decide +kernel
theorem dX12_notMapped_17 : decode cX12_notMapped 17 = .ok (.baload, 1) := by decide +kernel
theorem dX12_notMapped_18 : decode cX12_notMapped 18 = .ok (.ifCond .eq 22, 3) := by decide +kernel
theorem dX12_notMapped_21 : decode cX12_notMapped 21 = .ok (.aload_n 0, 1) := by decide +kernel
theorem dX12_notMapped_22 : decode cX12_notMapped 22 = .ok (.getfield 66, 3) := by decide +kernel
theorem dX12_notMapped_25 : decode cX12_notMapped 25 = .ok (.bipush 120, 2) := by decide +kernel
theorem dX12_notMapped_27 : decode cX12_notMapped 27 = .ok (.iload_n 1, 1) := by decide +kernel
theorem dX12_notMapped_28 : decode cX12_notMapped 28 = .ok (.imul, 1) := by decide +kernel
theorem dX12_notMapped_29 : decode cX12_notMapped 29 = .ok (.iload_n 3, 1) := by decide +kernel
theorem dX12_notMapped_30 : decode cX12_notMapped 30 = .ok (.iadd, 1) := by decide +kernel
theorem dX12_notMapped_31 : decode cX12_notMapped 31 = .ok (.iaload, 1) := by decide +kernel
theorem dX12_notMapped_32 : decode cX12_notMapped 32 = .ok (.iconst (-1), 1) := by decide +kernel
theorem dX12_notMapped_33 : decode cX12_notMapped 33 = .ok (.if_icmp .ne 7, 3) := by decide +kernel
theorem dX12_notMapped_36 : decode cX12_notMapped 36 = .ok (.iload_n 2, 1) := by decide +kernel
theorem dX12_notMapped_37 : decode cX12_notMapped 37 = .ok (.iconst 1, 1) := by decide +kernel
theorem dX12_notMapped_38 : decode cX12_notMapped 38 = .ok (.iadd, 1) := by decide +kernel
theorem dX12_notMapped_39 : decode cX12_notMapped 39 = .ok (.istore_n 2, 1) := by decide +kernel
theorem dX12_notMapped_40 : decode cX12_notMapped 40 = .ok (.iinc 3 1, 3) := by decide +kernel
theorem dX12_notMapped_43 : decode cX12_notMapped 43 = .ok (.goto (-39), 3) := by decide +kernel
theorem dX12_notMapped_46 : decode cX12_notMapped 46 = .ok (.iload_n 2, 1) := by decide +kernel
theorem dX12_notMapped_47 : decode cX12_notMapped 47 = .ok (.ireturn, 1) := by decide +kernel
noncomputable def st_notMapped (M : gM) : Nat × List Int → Option ((Nat × List Int) ⊕ (Int))
  | (0, [x1, x2, x3]) => (if x3 < (M 711 0) then
      (if 0 ≤ x3 ∧ x3 < 120 then
        (if (M 736 x3) = 0 then
          some (.inl (0, [x1, x2, (gw32 (x3 + 1))]))
        else
          (if 0 ≤ (gw32 ((gw32 ((120 : Int) * x1)) + x3)) ∧ (gw32 ((gw32 ((120 : Int) * x1)) + x3)) < 480 then
            (if (M 730 (gw32 ((gw32 ((120 : Int) * x1)) + x3))) = -1 then
              some (.inl (0, [x1, (gw32 (x2 + (1 : Int))), (gw32 (x3 + 1))]))
            else
              some (.inl (0, [x1, x2, (gw32 (x3 + 1))])))
          else none))
      else none)
    else
      some (.inr x2))
  | _ => none
theorem sk_notMapped_4 (k : Nat × List Int → Option (Int)) (M : gM) (x1 x2 x3 : Int) : gWk k (st_notMapped M (0, [x1, x2, x3])) = (if x3 < (M 711 0) then
    (if 0 ≤ x3 ∧ x3 < 120 then
      (if (M 736 x3) = 0 then
        k (0, [x1, x2, (gw32 (x3 + 1))])
      else
        (if 0 ≤ (gw32 ((gw32 ((120 : Int) * x1)) + x3)) ∧ (gw32 ((gw32 ((120 : Int) * x1)) + x3)) < 480 then
          (if (M 730 (gw32 ((gw32 ((120 : Int) * x1)) + x3))) = -1 then
            k (0, [x1, (gw32 (x2 + (1 : Int))), (gw32 (x3 + 1))])
          else
            k (0, [x1, x2, (gw32 (x3 + 1))]))
        else none))
    else none)
  else
    some x2) := by
  simp only [st_notMapped, gWk_ite, gWk_bind, gWk_inl, gWk_inr, gWk_none]
noncomputable def F_notMapped_4 (M : gM) (x1 x2 x3 : Int) : Option (Int) := gWh (st_notMapped M) (0, [x1, x2, x3])
theorem eq_notMapped_4 (M : gM) (x1 x2 x3 : Int) : F_notMapped_4 M x1 x2 x3 = (if x3 < (M 711 0) then
    (if 0 ≤ x3 ∧ x3 < 120 then
      (if (M 736 x3) = 0 then
        F_notMapped_4 M x1 x2 (gw32 (x3 + 1))
      else
        (if 0 ≤ (gw32 ((gw32 ((120 : Int) * x1)) + x3)) ∧ (gw32 ((gw32 ((120 : Int) * x1)) + x3)) < 480 then
          (if (M 730 (gw32 ((gw32 ((120 : Int) * x1)) + x3))) = -1 then
            F_notMapped_4 M x1 (gw32 (x2 + (1 : Int))) (gw32 (x3 + 1))
          else
            F_notMapped_4 M x1 x2 (gw32 (x3 + 1)))
        else none))
    else none)
  else
    some x2) := (gWh_eq _).trans (sk_notMapped_4 _ M x1 x2 x3)
noncomputable def F_notMapped (M : gM) (a1 : Int) : Option (Int) := F_notMapped_4 M a1 0 0
theorem eq_notMapped (M : gM) (a1 : Int) : F_notMapped M a1 = F_notMapped_4 M a1 0 0 := rfl
theorem okp_notMapped {sh : gS} {M : gM} : ∀ (s : Nat × List Int) (b : Int), gWh (st_notMapped M) s = some b → (∀ (x1 x2 x3 : Int), s = (0, [x1, x2, x3]) → gOK sh M → gA (gr 0 0) yX12_notMapped cX12_notMapped 4 (some (.int)) (gPq sh (some (0, b)) M) (0, 0) 4 [(4, 711), (0, x1), (0, x2), (0, x3)] [] sh M) := by
  refine gWh_ind (fun k hk s b h => ?_)
  · rintro x1 x2 x3 rfl hOK
    rw [sk_notMapped_4] at h
    refine g_iload_n (q0 := 5) (j := 3) rfl dX12_notMapped_4 rfl ?_
    refine g_aload_n (q0 := 6) (j := 0) rfl dX12_notMapped_5 rfl ?_
    refine g_getf (q0 := 9) (t := 0) (fi := 0) rfl rfl ff_X12_178 dX12_notMapped_6 rfl (sh_711 hOK) ?_
    refine g_icmp_ge (q0 := 12) (tgt := 46) rfl dX12_notMapped_9 (by decide) (fun h9 => ?_) (fun h9 => ?_)
    · replace h := gI_neg (Int.not_lt.mpr h9) h
      refine g_iload_n (q0 := 47) (j := 2) rfl dX12_notMapped_46 rfl ?_
      rw [← Option.some.inj h]
      refine g_ireturn dX12_notMapped_47 rfl ⟨Nat.zero_le _, Nat.zero_le _⟩ ?_
      exact ⟨rfl, rfl, rfl⟩
    · replace h := gI_pos h9 h
      refine g_aload_n (q0 := 13) (j := 0) rfl dX12_notMapped_12 rfl ?_
      refine g_getp (q0 := 16) (b := 736) rfl ff_X12_84 dX12_notMapped_13 rfl hOK (by decide) (sh_711 hOK) rfl (by decide) ?_
      refine g_iload_n (q0 := 17) (j := 3) rfl dX12_notMapped_16 rfl ?_
      obtain ⟨g1, h⟩ := gI_gd h
      refine g_zald (q0 := 18) rfl dX12_notMapped_17 (sh_736 hOK) g1.1 g1.2 ?_
      refine g_if_eq (q0 := 21) (tgt := 40) rfl dX12_notMapped_18 (by decide) (fun h18 => ?_) (fun h18 => ?_)
      · replace h := gI_pos h18 h
        refine g_iincw (q0 := 43) (lv2 := [_, _, _, _]) rfl dX12_notMapped_40 rfl (by decide) rfl rfl ?_
        refine g_goto (tgt := 4) dX12_notMapped_43 (by decide) ?_
        exact (hk _ _ h) _ _ _ rfl hOK
      · replace h := gI_neg h18 h
        refine g_aload_n (q0 := 22) (j := 0) rfl dX12_notMapped_21 rfl ?_
        refine g_getp (q0 := 25) (b := 730) rfl ff_X12_66 dX12_notMapped_22 rfl hOK (by decide) (sh_711 hOK) rfl (by decide) ?_
        refine g_bipush (q0 := 27) rfl dX12_notMapped_25 (k := ?_)
        refine g_iload_n (q0 := 28) (j := 1) rfl dX12_notMapped_27 rfl ?_
        refine g_imulw (q0 := 29) rfl dX12_notMapped_28 ?_
        refine g_iload_n (q0 := 30) (j := 3) rfl dX12_notMapped_29 rfl ?_
        refine g_iaddw (q0 := 31) rfl dX12_notMapped_30 ?_
        obtain ⟨g2, h⟩ := gI_gd h
        refine g_iald (q0 := 32) rfl dX12_notMapped_31 (sh_730 hOK) g2.1 g2.2 ?_
        refine g_iconst (q0 := 33) rfl dX12_notMapped_32 (k := ?_)
        refine g_icmp_ne (q0 := 36) (tgt := 40) rfl dX12_notMapped_33 (by decide) (fun h33 => ?_) (fun h33 => ?_)
        · replace h := gI_neg h33 h
          refine g_iincw (q0 := 43) (lv2 := [_, _, _, _]) rfl dX12_notMapped_40 rfl (by decide) rfl rfl ?_
          refine g_goto (tgt := 4) dX12_notMapped_43 (by decide) ?_
          exact (hk _ _ h) _ _ _ rfl hOK
        · replace h := gI_pos h33 h
          refine g_iload_n (q0 := 37) (j := 2) rfl dX12_notMapped_36 rfl ?_
          refine g_iconst (q0 := 38) rfl dX12_notMapped_37 (k := ?_)
          refine g_iaddw (q0 := 39) rfl dX12_notMapped_38 ?_
          refine g_istore_n (q0 := 40) (j := 2) (lv2 := [_, _, _, _]) rfl dX12_notMapped_39 (by decide) rfl rfl ?_
          refine g_iincw (q0 := 43) (lv2 := [_, _, _, _]) rfl dX12_notMapped_40 rfl (by decide) rfl rfl ?_
          refine g_goto (tgt := 4) dX12_notMapped_43 (by decide) ?_
          exact (hk _ _ h) _ _ _ rfl hOK
theorem ok_notMapped_4 {sh : gS} {M : gM} {x1 x2 x3 : Int} {b : Int} (hOK : gOK sh M) (h : F_notMapped_4 M x1 x2 x3 = some b) : gA (gr 0 0) yX12_notMapped cX12_notMapped 4 (some (.int)) (gPq sh (some (0, b)) M) (0, 0) 4 [(4, 711), (0, x1), (0, x2), (0, x3)] [] sh M :=
  (okp_notMapped _ _ h) _ _ _ rfl hOK
theorem ok_notMapped {sh : gS} {M : gM} {a1 : Int} {b : Int} (hOK : gOK sh M) (h : F_notMapped M a1 = some b) : gC (gr 0 0) yX12_notMapped cX12_notMapped 4 (some (.int)) [(4, 711), (0, a1)] sh M (gPq sh (some (0, b)) M) := by
  rw [eq_notMapped] at h
  refine gC_ofA (lv := [_, _, _, _]) (by decide +kernel) (Nat.le_of_ble_eq_true rfl) rfl (fun hMw hav => ?_)
  refine g_iconst (q0 := 1) rfl dX12_notMapped_0 (k := ?_)
  refine g_istore_n (q0 := 2) (j := 2) (lv2 := [_, _, _, _]) rfl dX12_notMapped_1 (by decide) rfl rfl ?_
  refine g_iconst (q0 := 3) rfl dX12_notMapped_2 (k := ?_)
  refine g_istore_n (q0 := 4) (j := 3) (lv2 := [_, _, _, _]) rfl dX12_notMapped_3 (by decide) rfl rfl ?_
  exact ok_notMapped_4 hOK h
-- ==== sound
theorem dX12_sound_0 : decode cX12_sound 0 = .ok (.iload_n 1, 1) := by decide +kernel
theorem dX12_sound_1 : decode cX12_sound 1 = .ok (.invokestatic 433, 3) := by decide +kernel
theorem dX12_sound_4 : decode cX12_sound 4 = .ok (.ifCond .eq 12, 3) := by decide +kernel
theorem dX12_sound_7 : decode cX12_sound 7 = .ok (.iload_n 2, 1) := by decide +kernel
theorem dX12_sound_8 : decode cX12_sound 8 = .ok (.iconst 0, 1) := by decide +kernel
theorem dX12_sound_9 : decode cX12_sound 9 = .ok (.iconst 5, 1) := by decide +kernel
theorem dX12_sound_10 : decode cX12_sound 10 = .ok (.invokestatic 182, 3) := by decide +kernel
theorem dX12_sound_13 : decode cX12_sound 13 = .ok (.ifCond .ne 5, 3) := by decide +kernel
theorem dX12_sound_16 : decode cX12_sound 16 = .ok (.iconst (-1), 1) := by decide +kernel
theorem dX12_sound_17 : decode cX12_sound 17 = .ok (.ireturn, 1) := by decide +kernel
theorem dX12_sound_18 : decode cX12_sound 18 = .ok (.aload_n 0, 1) := by decide +kernel
theorem dX12_sound_19 : decode cX12_sound 19 = .ok (.iload_n 1, 1) := by decide +kernel
theorem dX12_sound_20 : decode cX12_sound 20 = .ok (.invokevirtual 449, 3) := by decide +kernel
theorem dX12_sound_23 : decode cX12_sound 23 = .ok (.ifCond .ne 6, 3) := by decide +kernel
theorem dX12_sound_26 : decode cX12_sound 26 = .ok (.bipush (-3), 2) := by decide +kernel
theorem dX12_sound_28 : decode cX12_sound 28 = .ok (.ireturn, 1) := by decide +kernel
theorem dX12_sound_29 : decode cX12_sound 29 = .ok (.aload_n 0, 1) := by decide +kernel
theorem dX12_sound_30 : decode cX12_sound 30 = .ok (.iload_n 1, 1) := by decide +kernel
theorem dX12_sound_31 : decode cX12_sound 31 = .ok (.invokevirtual 582, 3) := by decide +kernel
theorem dX12_sound_34 : decode cX12_sound 34 = .ok (.iload_n 2, 1) := by decide +kernel
theorem dX12_sound_35 : decode cX12_sound 35 = .ok (.tableswitch 65 0 4 #[33, 40, 47, 53, 59], 33) := by decide +kernel
theorem dX12_sound_68 : decode cX12_sound 68 = .ok (.aload_n 0, 1) := by decide +kernel
theorem dX12_sound_69 : decode cX12_sound 69 = .ok (.iload_n 1, 1) := by decide +kernel
theorem dX12_sound_70 : decode cX12_sound 70 = .ok (.iconst 1, 1) := by decide +kernel
theorem dX12_sound_71 : decode cX12_sound 71 = .ok (.invokevirtual 616, 3) := by decide +kernel
theorem dX12_sound_74 : decode cX12_sound 74 = .ok (.ireturn, 1) := by decide +kernel
theorem dX12_sound_75 : decode cX12_sound 75 = .ok (.aload_n 0, 1) := by decide +kernel
theorem dX12_sound_76 : decode cX12_sound 76 = .ok (.iload_n 1, 1) := by decide +kernel
theorem dX12_sound_77 : decode cX12_sound 77 = .ok (.iconst 0, 1) := by decide +kernel
theorem dX12_sound_78 : decode cX12_sound 78 = .ok (.invokevirtual 616, 3) := by decide +kernel
theorem dX12_sound_81 : decode cX12_sound 81 = .ok (.ireturn, 1) := by decide +kernel
theorem dX12_sound_82 : decode cX12_sound 82 = .ok (.aload_n 0, 1) := by decide +kernel
theorem dX12_sound_83 : decode cX12_sound 83 = .ok (.iload_n 1, 1) := by decide +kernel
theorem dX12_sound_84 : decode cX12_sound 84 = .ok (.invokevirtual 620, 3) := by decide +kernel
theorem dX12_sound_87 : decode cX12_sound 87 = .ok (.ireturn, 1) := by decide +kernel
theorem dX12_sound_88 : decode cX12_sound 88 = .ok (.aload_n 0, 1) := by decide +kernel
theorem dX12_sound_89 : decode cX12_sound 89 = .ok (.iload_n 1, 1) := by decide +kernel
theorem dX12_sound_90 : decode cX12_sound 90 = .ok (.invokevirtual 623, 3) := by decide +kernel
theorem dX12_sound_93 : decode cX12_sound 93 = .ok (.ireturn, 1) := by decide +kernel
theorem dX12_sound_94 : decode cX12_sound 94 = .ok (.aload_n 0, 1) := by decide +kernel
theorem dX12_sound_95 : decode cX12_sound 95 = .ok (.iload_n 1, 1) := by decide +kernel
theorem dX12_sound_96 : decode cX12_sound 96 = .ok (.invokevirtual 626, 3) := by decide +kernel
theorem dX12_sound_99 : decode cX12_sound 99 = .ok (.ireturn, 1) := by decide +kernel
theorem dX12_sound_100 : decode cX12_sound 100 = .ok (.aload_n 0, 1) := by decide +kernel
theorem dX12_sound_101 : decode cX12_sound 101 = .ok (.iload_n 1, 1) := by decide +kernel
theorem dX12_sound_102 : decode cX12_sound 102 = .ok (.invokevirtual 629, 3) := by decide +kernel
theorem dX12_sound_105 : decode cX12_sound 105 = .ok (.ireturn, 1) := by decide +kernel
noncomputable def F_sound (M : gM) (a1 a2 : Int) : Option (Int × gM) := (Option.bind (F_isPlan a1) (fun r1 =>
    (if r1 = 0 then
      some (-1, M)
    else
      (Option.bind (F_in a2 0 5) (fun r10 =>
        (if r10 = 0 then
          some (-1, M)
        else
          (Option.bind (F_isToldPlan M a1) (fun r20 =>
            (if r20 = 0 then
              some (-3, M)
            else
              (Option.bind (F_marksPlan M a1) (fun m31 =>
                (if a2 = 0 then
                  (Option.bind (F_pairs m31 a1 1) (fun p71 =>
                    some (p71.1, p71.2)))
                else
                  (if a2 = 1 then
                    (Option.bind (F_pairs m31 a1 0) (fun p78 =>
                      some (p78.1, p78.2)))
                  else
                    (if a2 = 2 then
                      (Option.bind (F_twins m31 a1) (fun r84 =>
                        some (r84, m31)))
                    else
                      (if a2 = 3 then
                        (Option.bind (F_lostByKept m31 a1) (fun p90 =>
                          some (p90.1, p90.2)))
                      else
                        (if a2 = 4 then
                          (Option.bind (F_thinned m31 a1) (fun r96 =>
                            some (r96, m31)))
                        else
                          (Option.bind (F_notMapped m31 a1) (fun r102 =>
                            some (r102, m31)))))))))))))))))))
theorem eq_sound (M : gM) (a1 a2 : Int) : F_sound M a1 a2 = (Option.bind (F_isPlan a1) (fun r1 =>
    (if r1 = 0 then
      some (-1, M)
    else
      (Option.bind (F_in a2 0 5) (fun r10 =>
        (if r10 = 0 then
          some (-1, M)
        else
          (Option.bind (F_isToldPlan M a1) (fun r20 =>
            (if r20 = 0 then
              some (-3, M)
            else
              (Option.bind (F_marksPlan M a1) (fun m31 =>
                (if a2 = 0 then
                  (Option.bind (F_pairs m31 a1 1) (fun p71 =>
                    some (p71.1, p71.2)))
                else
                  (if a2 = 1 then
                    (Option.bind (F_pairs m31 a1 0) (fun p78 =>
                      some (p78.1, p78.2)))
                  else
                    (if a2 = 2 then
                      (Option.bind (F_twins m31 a1) (fun r84 =>
                        some (r84, m31)))
                    else
                      (if a2 = 3 then
                        (Option.bind (F_lostByKept m31 a1) (fun p90 =>
                          some (p90.1, p90.2)))
                      else
                        (if a2 = 4 then
                          (Option.bind (F_thinned m31 a1) (fun r96 =>
                            some (r96, m31)))
                        else
                          (Option.bind (F_notMapped m31 a1) (fun r102 =>
                            some (r102, m31))))))))))))))))))) := rfl
theorem fr_sound {M : gM} {a1 a2 : Int} {b : Int × gM} (h : F_sound M a1 a2 = some b) : gFr [718, 719, 720, 723, 724, 732, 736] [32, 33] M b.2 := by
  rw [eq_sound] at h
  obtain ⟨r1, e1, h⟩ := gI_bd h
  rcases gI_or h with h | h
  · rw [← Option.some.inj h]
    exact (gFr_r [718, 719, 720, 723, 724, 732, 736] [32, 33] _)
  · obtain ⟨r10, e10, h⟩ := gI_bd h
    rcases gI_or h with h | h
    · rw [← Option.some.inj h]
      exact (gFr_r [718, 719, 720, 723, 724, 732, 736] [32, 33] _)
    · obtain ⟨r20, e20, h⟩ := gI_bd h
      rcases gI_or h with h | h
      · rw [← Option.some.inj h]
        exact (gFr_r [718, 719, 720, 723, 724, 732, 736] [32, 33] _)
      · obtain ⟨m31, e31, h⟩ := gI_bd h
        rcases gI_or h with h | h
        · obtain ⟨p71, e71, h⟩ := gI_bd h
          rw [← Option.some.inj h]
          exact (gFr_t (gFr_t (gFr_r [718, 719, 720, 723, 724, 732, 736] [32, 33] _) (fr_marksPlan (b := m31) e31) (by first | decide | simp) (by decide)) (fr_pairs (b := p71) e71) (by first | decide | simp) (by decide))
        · rcases gI_or h with h | h
          · obtain ⟨p78, e78, h⟩ := gI_bd h
            rw [← Option.some.inj h]
            exact (gFr_t (gFr_t (gFr_r [718, 719, 720, 723, 724, 732, 736] [32, 33] _) (fr_marksPlan (b := m31) e31) (by first | decide | simp) (by decide)) (fr_pairs (b := p78) e78) (by first | decide | simp) (by decide))
          · rcases gI_or h with h | h
            · obtain ⟨r84, e84, h⟩ := gI_bd h
              rw [← Option.some.inj h]
              exact (gFr_t (gFr_r [718, 719, 720, 723, 724, 732, 736] [32, 33] _) (fr_marksPlan (b := m31) e31) (by first | decide | simp) (by decide))
            · rcases gI_or h with h | h
              · obtain ⟨p90, e90, h⟩ := gI_bd h
                rw [← Option.some.inj h]
                exact (gFr_t (gFr_t (gFr_r [718, 719, 720, 723, 724, 732, 736] [32, 33] _) (fr_marksPlan (b := m31) e31) (by first | decide | simp) (by decide)) (fr_lostByKept (b := p90) e90) (by first | decide | simp) (by decide))
              · rcases gI_or h with h | h
                · obtain ⟨r96, e96, h⟩ := gI_bd h
                  rw [← Option.some.inj h]
                  exact (gFr_t (gFr_r [718, 719, 720, 723, 724, 732, 736] [32, 33] _) (fr_marksPlan (b := m31) e31) (by first | decide | simp) (by decide))
                · obtain ⟨r102, e102, h⟩ := gI_bd h
                  rw [← Option.some.inj h]
                  exact (gFr_t (gFr_r [718, 719, 720, 723, 724, 732, 736] [32, 33] _) (fr_marksPlan (b := m31) e31) (by first | decide | simp) (by decide))
theorem ok_sound {sh : gS} {M : gM} {a1 a2 : Int} {b : Int × gM} (hOK : gOK sh M) (h : F_sound M a1 a2 = some b) : gC (gr 7 164) yX12_sound cX12_sound 3 (some (.int)) [(4, 711), (0, a1), (0, a2)] sh M (gPq sh (some (0, b.1)) b.2) := by
  rw [eq_sound] at h
  refine gC_ofA (lv := [_, _, _]) (by decide +kernel) (Nat.le_of_ble_eq_true rfl) rfl (fun hMw hav => ?_)
  refine g_iload_n (q0 := 1) (j := 1) rfl dX12_sound_0 rfl ?_
  obtain ⟨r1, e1, h⟩ := gI_bd h
  refine g_callSq1 (as := [_]) (rest := []) mt_X12_isPlan ms_X12_isPlan ml_X12_433 dX12_sound_1 (q0 := 4) rfl rfl (ok_isPlan hOK e1) rfl ⟨by decide, by decide⟩ (Nat.le_of_ble_eq_true rfl) ⟨Nat.zero_le _, Nat.zero_le _⟩ ?_
  refine g_if_eq (q0 := 7) (tgt := 16) rfl dX12_sound_4 (by decide) (fun h4 => ?_) (fun h4 => ?_)
  · replace h := gI_pos h4 h
    refine g_iconst (q0 := 17) rfl dX12_sound_16 (k := ?_)
    rw [← Option.some.inj h]
    refine g_ireturn dX12_sound_17 rfl ⟨Nat.zero_le _, Nat.zero_le _⟩ ?_
    exact ⟨rfl, rfl, rfl⟩
  · replace h := gI_neg h4 h
    refine g_iload_n (q0 := 8) (j := 2) rfl dX12_sound_7 rfl ?_
    refine g_iconst (q0 := 9) rfl dX12_sound_8 (k := ?_)
    refine g_iconst (q0 := 10) rfl dX12_sound_9 (k := ?_)
    obtain ⟨r10, e10, h⟩ := gI_bd h
    refine g_callSq1 (as := [_, _, _]) (rest := []) mt_X12_in ms_X12_in ml_X12_182 dX12_sound_10 (q0 := 13) rfl rfl (ok_in hOK e10) rfl ⟨by decide, by decide⟩ (Nat.le_of_ble_eq_true rfl) ⟨Nat.zero_le _, Nat.zero_le _⟩ ?_
    refine g_if_ne (q0 := 16) (tgt := 18) rfl dX12_sound_13 (by decide) (fun h13 => ?_) (fun h13 => ?_)
    · replace h := gI_neg h13 h
      refine g_aload_n (q0 := 19) (j := 0) rfl dX12_sound_18 rfl ?_
      refine g_iload_n (q0 := 20) (j := 1) rfl dX12_sound_19 rfl ?_
      obtain ⟨r20, e20, h⟩ := gI_bd h
      refine g_callVq1 (as := [_]) (rest := []) mt_X12_isToldPlan mi_X12_isToldPlan se_X12_isToldPlan ml_X12_449 dX12_sound_20 (q0 := 23) rfl rfl (sh_711 hOK) rfl rfl (ok_isToldPlan hOK e20) rfl ⟨by decide, by decide⟩ (Nat.le_of_ble_eq_true rfl) ⟨Nat.zero_le _, Nat.zero_le _⟩ ?_
      refine g_if_ne (q0 := 26) (tgt := 29) rfl dX12_sound_23 (by decide) (fun h23 => ?_) (fun h23 => ?_)
      · replace h := gI_neg h23 h
        refine g_aload_n (q0 := 30) (j := 0) rfl dX12_sound_29 rfl ?_
        refine g_iload_n (q0 := 31) (j := 1) rfl dX12_sound_30 rfl ?_
        obtain ⟨m31, e31, h⟩ := gI_bd h
        refine g_callVq0 (as := [_]) (rest := []) mt_X12_marksPlan mi_X12_marksPlan se_X12_marksPlan ml_X12_582 dX12_sound_31 (q0 := 34) rfl rfl (sh_711 hOK) rfl rfl (ok_marksPlan hOK e31) rfl ⟨by decide, by decide⟩ (Nat.le_of_ble_eq_true rfl) ⟨Nat.zero_le _, Nat.zero_le _⟩ ?_
        have hOK1 : gOK sh m31 := gOK_fr hOK (fr_marksPlan (b := m31) e31) (by first | decide | (intro a ha; simp only [List.mem_cons, List.not_mem_nil, or_false] at ha; omega)) (by decide)
        refine g_iload_n (q0 := 35) (j := 2) rfl dX12_sound_34 rfl ?_
        by_cases hs0 : a2 = 0
        · replace h := gI_pos hs0 h
          refine g_tabIn (off := 33) (tgt := 68) dX12_sound_35 (by omega) (by omega) (by rw [hs0]; rfl) (by decide) ?_
          refine g_aload_n (q0 := 69) (j := 0) rfl dX12_sound_68 rfl ?_
          refine g_iload_n (q0 := 70) (j := 1) rfl dX12_sound_69 rfl ?_
          refine g_iconst (q0 := 71) rfl dX12_sound_70 (k := ?_)
          obtain ⟨p71, e71, h⟩ := gI_bd h
          refine g_callVq1 (as := [_, _]) (rest := []) mt_X12_pairs mi_X12_pairs se_X12_pairs ml_X12_616 dX12_sound_71 (q0 := 74) rfl rfl (sh_711 hOK1) rfl rfl (ok_pairs hOK1 e71) rfl ⟨by decide, by decide⟩ (Nat.le_of_ble_eq_true rfl) ⟨Nat.zero_le _, Nat.zero_le _⟩ ?_
          have hOK4 : gOK sh p71.2 := gOK_fr hOK1 (fr_pairs (b := p71) e71) (by first | decide | (intro a ha; simp only [List.mem_cons, List.not_mem_nil, or_false] at ha; omega)) (by decide)
          rw [← Option.some.inj h]
          refine g_ireturn dX12_sound_74 rfl ⟨Nat.zero_le _, Nat.zero_le _⟩ ?_
          exact ⟨rfl, rfl, rfl⟩
        · replace h := gI_neg hs0 h
          by_cases hs1 : a2 = 1
          · replace h := gI_pos hs1 h
            refine g_tabIn (off := 40) (tgt := 75) dX12_sound_35 (by omega) (by omega) (by rw [hs1]; rfl) (by decide) ?_
            refine g_aload_n (q0 := 76) (j := 0) rfl dX12_sound_75 rfl ?_
            refine g_iload_n (q0 := 77) (j := 1) rfl dX12_sound_76 rfl ?_
            refine g_iconst (q0 := 78) rfl dX12_sound_77 (k := ?_)
            obtain ⟨p78, e78, h⟩ := gI_bd h
            refine g_callVq1 (as := [_, _]) (rest := []) mt_X12_pairs mi_X12_pairs se_X12_pairs ml_X12_616 dX12_sound_78 (q0 := 81) rfl rfl (sh_711 hOK1) rfl rfl (ok_pairs hOK1 e78) rfl ⟨by decide, by decide⟩ (Nat.le_of_ble_eq_true rfl) ⟨Nat.zero_le _, Nat.zero_le _⟩ ?_
            have hOK3 : gOK sh p78.2 := gOK_fr hOK1 (fr_pairs (b := p78) e78) (by first | decide | (intro a ha; simp only [List.mem_cons, List.not_mem_nil, or_false] at ha; omega)) (by decide)
            rw [← Option.some.inj h]
            refine g_ireturn dX12_sound_81 rfl ⟨Nat.zero_le _, Nat.zero_le _⟩ ?_
            exact ⟨rfl, rfl, rfl⟩
          · replace h := gI_neg hs1 h
            by_cases hs2 : a2 = 2
            · replace h := gI_pos hs2 h
              refine g_tabIn (off := 47) (tgt := 82) dX12_sound_35 (by omega) (by omega) (by rw [hs2]; rfl) (by decide) ?_
              refine g_aload_n (q0 := 83) (j := 0) rfl dX12_sound_82 rfl ?_
              refine g_iload_n (q0 := 84) (j := 1) rfl dX12_sound_83 rfl ?_
              obtain ⟨r84, e84, h⟩ := gI_bd h
              refine g_callVq1 (as := [_]) (rest := []) mt_X12_twins mi_X12_twins se_X12_twins ml_X12_620 dX12_sound_84 (q0 := 87) rfl rfl (sh_711 hOK1) rfl rfl (ok_twins hOK1 e84) rfl ⟨by decide, by decide⟩ (Nat.le_of_ble_eq_true rfl) ⟨Nat.zero_le _, Nat.zero_le _⟩ ?_
              rw [← Option.some.inj h]
              refine g_ireturn dX12_sound_87 rfl ⟨Nat.zero_le _, Nat.zero_le _⟩ ?_
              exact ⟨rfl, rfl, rfl⟩
            · replace h := gI_neg hs2 h
              by_cases hs3 : a2 = 3
              · replace h := gI_pos hs3 h
                refine g_tabIn (off := 53) (tgt := 88) dX12_sound_35 (by omega) (by omega) (by rw [hs3]; rfl) (by decide) ?_
                refine g_aload_n (q0 := 89) (j := 0) rfl dX12_sound_88 rfl ?_
                refine g_iload_n (q0 := 90) (j := 1) rfl dX12_sound_89 rfl ?_
                obtain ⟨p90, e90, h⟩ := gI_bd h
                refine g_callVq1 (as := [_]) (rest := []) mt_X12_lostByKept mi_X12_lostByKept se_X12_lostByKept ml_X12_623 dX12_sound_90 (q0 := 93) rfl rfl (sh_711 hOK1) rfl rfl (ok_lostByKept hOK1 e90) rfl ⟨by decide, by decide⟩ (Nat.le_of_ble_eq_true rfl) ⟨Nat.zero_le _, Nat.zero_le _⟩ ?_
                have hOK2 : gOK sh p90.2 := gOK_fr hOK1 (fr_lostByKept (b := p90) e90) (by first | decide | (intro a ha; simp only [List.mem_cons, List.not_mem_nil, or_false] at ha; omega)) (by decide)
                rw [← Option.some.inj h]
                refine g_ireturn dX12_sound_93 rfl ⟨Nat.zero_le _, Nat.zero_le _⟩ ?_
                exact ⟨rfl, rfl, rfl⟩
              · replace h := gI_neg hs3 h
                by_cases hs4 : a2 = 4
                · replace h := gI_pos hs4 h
                  refine g_tabIn (off := 59) (tgt := 94) dX12_sound_35 (by omega) (by omega) (by rw [hs4]; rfl) (by decide) ?_
                  refine g_aload_n (q0 := 95) (j := 0) rfl dX12_sound_94 rfl ?_
                  refine g_iload_n (q0 := 96) (j := 1) rfl dX12_sound_95 rfl ?_
                  obtain ⟨r96, e96, h⟩ := gI_bd h
                  refine g_callVq1 (as := [_]) (rest := []) mt_X12_thinned mi_X12_thinned se_X12_thinned ml_X12_626 dX12_sound_96 (q0 := 99) rfl rfl (sh_711 hOK1) rfl rfl (ok_thinned hOK1 e96) rfl ⟨by decide, by decide⟩ (Nat.le_of_ble_eq_true rfl) ⟨Nat.zero_le _, Nat.zero_le _⟩ ?_
                  rw [← Option.some.inj h]
                  refine g_ireturn dX12_sound_99 rfl ⟨Nat.zero_le _, Nat.zero_le _⟩ ?_
                  exact ⟨rfl, rfl, rfl⟩
                · replace h := gI_neg hs4 h
                  refine g_tabOut (tgt := 100) dX12_sound_35 (by omega) (by decide) ?_
                  refine g_aload_n (q0 := 101) (j := 0) rfl dX12_sound_100 rfl ?_
                  refine g_iload_n (q0 := 102) (j := 1) rfl dX12_sound_101 rfl ?_
                  obtain ⟨r102, e102, h⟩ := gI_bd h
                  refine g_callVq1 (as := [_]) (rest := []) mt_X12_notMapped mi_X12_notMapped se_X12_notMapped ml_X12_629 dX12_sound_102 (q0 := 105) rfl rfl (sh_711 hOK1) rfl rfl (ok_notMapped hOK1 e102) rfl ⟨by decide, by decide⟩ (Nat.le_of_ble_eq_true rfl) ⟨Nat.zero_le _, Nat.zero_le _⟩ ?_
                  rw [← Option.some.inj h]
                  refine g_ireturn dX12_sound_105 rfl ⟨Nat.zero_le _, Nat.zero_le _⟩ ?_
                  exact ⟨rfl, rfl, rfl⟩
      · replace h := gI_pos h23 h
        refine g_bipush (q0 := 28) rfl dX12_sound_26 (k := ?_)
        rw [← Option.some.inj h]
        refine g_ireturn dX12_sound_28 rfl ⟨Nat.zero_le _, Nat.zero_le _⟩ ?_
        exact ⟨rfl, rfl, rfl⟩
    · replace h := gI_pos h13 h
      refine g_iconst (q0 := 17) rfl dX12_sound_16 (k := ?_)
      rw [← Option.some.inj h]
      refine g_ireturn dX12_sound_17 rfl ⟨Nat.zero_le _, Nat.zero_le _⟩ ?_
      exact ⟨rfl, rfl, rfl⟩
-- ==== branchAt
theorem dX12_branchAt_0 : decode cX12_branchAt 0 = .ok (.aload_n 0, 1) := by decide +kernel
theorem dX12_branchAt_1 : decode cX12_branchAt 1 = .ok (.getfield 57, 3) := by decide +kernel
theorem dX12_branchAt_4 : decode cX12_branchAt 4 = .ok (.bipush 52, 2) := by decide +kernel
theorem dX12_branchAt_6 : decode cX12_branchAt 6 = .ok (.iload_n 1, 1) := by decide +kernel
theorem dX12_branchAt_7 : decode cX12_branchAt 7 = .ok (.imul, 1) := by decide +kernel
theorem dX12_branchAt_8 : decode cX12_branchAt 8 = .ok (.iload_n 2, 1) := by decide +kernel
theorem dX12_branchAt_9 : decode cX12_branchAt 9 = .ok (.iadd, 1) := by decide +kernel
theorem dX12_branchAt_10 : decode cX12_branchAt 10 = .ok (.iaload, 1) := by decide +kernel
theorem dX12_branchAt_11 : decode cX12_branchAt 11 = .ok (.ireturn, 1) := by decide +kernel
noncomputable def F_branchAt (M : gM) (a1 a2 : Int) : Option (Int) := (if 0 ≤ (gw32 ((gw32 ((52 : Int) * a1)) + a2)) ∧ (gw32 ((gw32 ((52 : Int) * a1)) + a2)) < 208 then
    some (M 727 (gw32 ((gw32 ((52 : Int) * a1)) + a2)))
  else none)
theorem eq_branchAt (M : gM) (a1 a2 : Int) : F_branchAt M a1 a2 = (if 0 ≤ (gw32 ((gw32 ((52 : Int) * a1)) + a2)) ∧ (gw32 ((gw32 ((52 : Int) * a1)) + a2)) < 208 then
    some (M 727 (gw32 ((gw32 ((52 : Int) * a1)) + a2)))
  else none) := rfl
theorem ok_branchAt {sh : gS} {M : gM} {a1 a2 : Int} {b : Int} (hOK : gOK sh M) (h : F_branchAt M a1 a2 = some b) : gC (gr 0 0) yX12_branchAt cX12_branchAt 3 (some (.int)) [(4, 711), (0, a1), (0, a2)] sh M (gPq sh (some (0, b)) M) := by
  rw [eq_branchAt] at h
  refine gC_ofA (lv := [_, _, _]) (by decide +kernel) (Nat.le_of_ble_eq_true rfl) rfl (fun hMw hav => ?_)
  refine g_aload_n (q0 := 1) (j := 0) rfl dX12_branchAt_0 rfl ?_
  refine g_getp (q0 := 4) (b := 727) rfl ff_X12_57 dX12_branchAt_1 rfl hOK (by decide) (sh_711 hOK) rfl (by decide) ?_
  refine g_bipush (q0 := 6) rfl dX12_branchAt_4 (k := ?_)
  refine g_iload_n (q0 := 7) (j := 1) rfl dX12_branchAt_6 rfl ?_
  refine g_imulw (q0 := 8) rfl dX12_branchAt_7 ?_
  refine g_iload_n (q0 := 9) (j := 2) rfl dX12_branchAt_8 rfl ?_
  refine g_iaddw (q0 := 10) rfl dX12_branchAt_9 ?_
  obtain ⟨g1, h⟩ := gI_gd h
  refine g_iald (q0 := 11) rfl dX12_branchAt_10 (sh_727 hOK) g1.1 g1.2 ?_
  rw [← Option.some.inj h]
  refine g_ireturn dX12_branchAt_11 rfl ⟨Nat.zero_le _, Nat.zero_le _⟩ ?_
  exact ⟨rfl, rfl, rfl⟩
-- ==== isTree
theorem dX12_isTree_0 : decode cX12_isTree 0 = .ok (.iconst 0, 1) := by decide +kernel
theorem dX12_isTree_1 : decode cX12_isTree 1 = .ok (.istore_n 2, 1) := by decide +kernel
theorem dX12_isTree_2 : decode cX12_isTree 2 = .ok (.iload_n 2, 1) := by decide +kernel
theorem dX12_isTree_3 : decode cX12_isTree 3 = .ok (.aload_n 0, 1) := by decide +kernel
theorem dX12_isTree_4 : decode cX12_isTree 4 = .ok (.getfield 28, 3) := by decide +kernel
theorem dX12_isTree_7 : decode cX12_isTree 7 = .ok (.iload_n 1, 1) := by decide +kernel
theorem dX12_isTree_8 : decode cX12_isTree 8 = .ok (.iaload, 1) := by decide +kernel
theorem dX12_isTree_9 : decode cX12_isTree 9 = .ok (.if_icmp .ge 25, 3) := by decide +kernel
theorem dX12_isTree_12 : decode cX12_isTree 12 = .ok (.aload_n 0, 1) := by decide +kernel
theorem dX12_isTree_13 : decode cX12_isTree 13 = .ok (.iload_n 1, 1) := by decide +kernel
theorem dX12_isTree_14 : decode cX12_isTree 14 = .ok (.aload_n 0, 1) := by decide +kernel
theorem dX12_isTree_15 : decode cX12_isTree 15 = .ok (.iload_n 1, 1) := by decide +kernel
theorem dX12_isTree_16 : decode cX12_isTree 16 = .ok (.iload_n 2, 1) := by decide +kernel
theorem dX12_isTree_17 : decode cX12_isTree 17 = .ok (.invokevirtual 162, 3) := by decide +kernel
theorem dX12_isTree_20 : decode cX12_isTree 20 = .ok (.invokevirtual 306, 3) := by decide +kernel
theorem dX12_isTree_23 : decode cX12_isTree 23 = .ok (.ifCond .eq 5, 3) := by decide +kernel
theorem dX12_isTree_26 : decode cX12_isTree 26 = .ok (.iconst 0, 1) := by decide +kernel
theorem dX12_isTree_27 : decode cX12_isTree 27 = .ok (.ireturn, 1) := by decide +kernel
theorem dX12_isTree_28 : decode cX12_isTree 28 = .ok (.iinc 2 1, 3) := by decide +kernel
theorem dX12_isTree_31 : decode cX12_isTree 31 = .ok (.goto (-29), 3) := by decide +kernel
theorem dX12_isTree_34 : decode cX12_isTree 34 = .ok (.iconst 1, 1) := by decide +kernel
theorem dX12_isTree_35 : decode cX12_isTree 35 = .ok (.ireturn, 1) := by decide +kernel
noncomputable def st_isTree (M : gM) : Nat × List Int → Option ((Nat × List Int) ⊕ (Int))
  | (0, [x1, x2]) => (if 0 ≤ x1 ∧ x1 < 123 then
      (if x2 < (M 718 x1) then
        (Option.bind (F_pathAt M x1 x2) (fun r17 =>
          (Option.bind (F_isBarred M x1 r17) (fun r20 =>
            (if r20 = 0 then
              some (.inl (0, [x1, (gw32 (x2 + 1))]))
            else
              some (.inr 0))))))
      else
        some (.inr 1))
    else none)
  | _ => none
theorem sk_isTree_2 (k : Nat × List Int → Option (Int)) (M : gM) (x1 x2 : Int) : gWk k (st_isTree M (0, [x1, x2])) = (if 0 ≤ x1 ∧ x1 < 123 then
    (if x2 < (M 718 x1) then
      (Option.bind (F_pathAt M x1 x2) (fun r17 =>
        (Option.bind (F_isBarred M x1 r17) (fun r20 =>
          (if r20 = 0 then
            k (0, [x1, (gw32 (x2 + 1))])
          else
            some 0)))))
    else
      some 1)
  else none) := by
  simp only [st_isTree, gWk_ite, gWk_bind, gWk_inl, gWk_inr, gWk_none]
noncomputable def F_isTree_2 (M : gM) (x1 x2 : Int) : Option (Int) := gWh (st_isTree M) (0, [x1, x2])
theorem eq_isTree_2 (M : gM) (x1 x2 : Int) : F_isTree_2 M x1 x2 = (if 0 ≤ x1 ∧ x1 < 123 then
    (if x2 < (M 718 x1) then
      (Option.bind (F_pathAt M x1 x2) (fun r17 =>
        (Option.bind (F_isBarred M x1 r17) (fun r20 =>
          (if r20 = 0 then
            F_isTree_2 M x1 (gw32 (x2 + 1))
          else
            some 0)))))
    else
      some 1)
  else none) := (gWh_eq _).trans (sk_isTree_2 _ M x1 x2)
noncomputable def F_isTree (M : gM) (a1 : Int) : Option (Int) := F_isTree_2 M a1 0
theorem eq_isTree (M : gM) (a1 : Int) : F_isTree M a1 = F_isTree_2 M a1 0 := rfl
theorem bop_isTree {M : gM} : ∀ (s : Nat × List Int) (b : Int), gWh (st_isTree M) s = some b → (∀ (x1 x2 : Int), s = (0, [x1, x2]) → b = 0 ∨ b = 1) := by
  refine gWh_ind (fun k hk s b h => ?_)
  · rintro x1 x2 rfl
    rw [sk_isTree_2] at h
    obtain ⟨g1, h⟩ := gI_gd h
    rcases gI_or h with h | h
    · obtain ⟨r17, e17, h⟩ := gI_bd h
      obtain ⟨r20, e20, h⟩ := gI_bd h
      rcases gI_or h with h | h
      · exact (hk _ _ h) _ _ rfl
      · rw [← Option.some.inj h]
        exact (Or.inl rfl)
    · rw [← Option.some.inj h]
      exact (Or.inr rfl)
theorem bo_isTree_2 {M : gM} {x1 x2 : Int} {b : Int} (h : F_isTree_2 M x1 x2 = some b) : b = 0 ∨ b = 1 :=
  (bop_isTree _ _ h) _ _ rfl
theorem bo_isTree {M : gM} {a1 : Int} {b : Int} (h : F_isTree M a1 = some b) : b = 0 ∨ b = 1 := by
  rw [eq_isTree] at h
  exact bo_isTree_2 h
theorem okp_isTree {sh : gS} {M : gM} : ∀ (s : Nat × List Int) (b : Int), gWh (st_isTree M) s = some b → (∀ (x1 x2 : Int), s = (0, [x1, x2]) → gOK sh M → gA (gr 3 66) yX12_isTree cX12_isTree 3 (some (.boolean)) (gPq sh (some (0, b)) M) (0, 0) 2 [(4, 711), (0, x1), (0, x2)] [] sh M) := by
  refine gWh_ind (fun k hk s b h => ?_)
  · rintro x1 x2 rfl hOK
    rw [sk_isTree_2] at h
    refine g_iload_n (q0 := 3) (j := 2) rfl dX12_isTree_2 rfl ?_
    refine g_aload_n (q0 := 4) (j := 0) rfl dX12_isTree_3 rfl ?_
    refine g_getp (q0 := 7) (b := 718) rfl ff_X12_28 dX12_isTree_4 rfl hOK (by decide) (sh_711 hOK) rfl (by decide) ?_
    refine g_iload_n (q0 := 8) (j := 1) rfl dX12_isTree_7 rfl ?_
    obtain ⟨g1, h⟩ := gI_gd h
    refine g_iald (q0 := 9) rfl dX12_isTree_8 (sh_718 hOK) g1.1 g1.2 ?_
    refine g_icmp_ge (q0 := 12) (tgt := 34) rfl dX12_isTree_9 (by decide) (fun h9 => ?_) (fun h9 => ?_)
    · replace h := gI_neg (Int.not_lt.mpr h9) h
      refine g_iconst (q0 := 35) rfl dX12_isTree_34 (k := ?_)
      rw [← Option.some.inj h]
      refine g_zreturn dX12_isTree_35 rfl (gnz (Or.inr rfl)) ⟨Nat.zero_le _, Nat.zero_le _⟩ ?_
      exact ⟨rfl, rfl, rfl⟩
    · replace h := gI_pos h9 h
      refine g_aload_n (q0 := 13) (j := 0) rfl dX12_isTree_12 rfl ?_
      refine g_iload_n (q0 := 14) (j := 1) rfl dX12_isTree_13 rfl ?_
      refine g_aload_n (q0 := 15) (j := 0) rfl dX12_isTree_14 rfl ?_
      refine g_iload_n (q0 := 16) (j := 1) rfl dX12_isTree_15 rfl ?_
      refine g_iload_n (q0 := 17) (j := 2) rfl dX12_isTree_16 rfl ?_
      obtain ⟨r17, e17, h⟩ := gI_bd h
      refine g_callVq1 (as := [_, _]) (rest := [_, _]) mt_X12_pathAt mi_X12_pathAt se_X12_pathAt ml_X12_162 dX12_isTree_17 (q0 := 20) rfl rfl (sh_711 hOK) rfl rfl (ok_pathAt hOK e17) rfl ⟨by decide, by decide⟩ (Nat.le_of_ble_eq_true rfl) ⟨Nat.zero_le _, Nat.zero_le _⟩ ?_
      obtain ⟨r20, e20, h⟩ := gI_bd h
      refine g_callVq1 (as := [_, _]) (rest := []) mt_X12_isBarred mi_X12_isBarred se_X12_isBarred ml_X12_306 dX12_isTree_20 (q0 := 23) rfl rfl (sh_711 hOK) rfl rfl (ok_isBarred hOK e20) rfl ⟨by decide, by decide⟩ (Nat.le_of_ble_eq_true rfl) ⟨Nat.zero_le _, Nat.zero_le _⟩ ?_
      refine g_if_eq (q0 := 26) (tgt := 28) rfl dX12_isTree_23 (by decide) (fun h23 => ?_) (fun h23 => ?_)
      · replace h := gI_pos h23 h
        refine g_iincw (q0 := 31) (lv2 := [_, _, _]) rfl dX12_isTree_28 rfl (by decide) rfl rfl ?_
        refine g_goto (tgt := 2) dX12_isTree_31 (by decide) ?_
        exact (hk _ _ h) _ _ rfl hOK
      · replace h := gI_neg h23 h
        refine g_iconst (q0 := 27) rfl dX12_isTree_26 (k := ?_)
        rw [← Option.some.inj h]
        refine g_zreturn dX12_isTree_27 rfl (gnz (Or.inl rfl)) ⟨Nat.zero_le _, Nat.zero_le _⟩ ?_
        exact ⟨rfl, rfl, rfl⟩
theorem ok_isTree_2 {sh : gS} {M : gM} {x1 x2 : Int} {b : Int} (hOK : gOK sh M) (h : F_isTree_2 M x1 x2 = some b) : gA (gr 3 66) yX12_isTree cX12_isTree 3 (some (.boolean)) (gPq sh (some (0, b)) M) (0, 0) 2 [(4, 711), (0, x1), (0, x2)] [] sh M :=
  (okp_isTree _ _ h) _ _ rfl hOK
theorem ok_isTree {sh : gS} {M : gM} {a1 : Int} {b : Int} (hOK : gOK sh M) (h : F_isTree M a1 = some b) : gC (gr 3 66) yX12_isTree cX12_isTree 3 (some (.boolean)) [(4, 711), (0, a1)] sh M (gPq sh (some (0, b)) M) := by
  rw [eq_isTree] at h
  refine gC_ofA (lv := [_, _, _]) (by decide +kernel) (Nat.le_of_ble_eq_true rfl) rfl (fun hMw hav => ?_)
  refine g_iconst (q0 := 1) rfl dX12_isTree_0 (k := ?_)
  refine g_istore_n (q0 := 2) (j := 2) (lv2 := [_, _, _]) rfl dX12_isTree_1 (by decide) rfl rfl ?_
  exact ok_isTree_2 hOK h
-- ==== putsTogether
theorem dX12_putsTogether_0 : decode cX12_putsTogether 0 = .ok (.aload_n 0, 1) := by decide +kernel
theorem dX12_putsTogether_1 : decode cX12_putsTogether 1 = .ok (.iload_n 1, 1) := by decide +kernel
theorem dX12_putsTogether_2 : decode cX12_putsTogether 2 = .ok (.bipush 122, 2) := by decide +kernel
theorem dX12_putsTogether_4 : decode cX12_putsTogether 4 = .ok (.invokevirtual 202, 3) := by decide +kernel
theorem dX12_putsTogether_7 : decode cX12_putsTogether 7 = .ok (.iconst 0, 1) := by decide +kernel
theorem dX12_putsTogether_8 : decode cX12_putsTogether 8 = .ok (.istore_n 3, 1) := by decide +kernel
theorem dX12_putsTogether_9 : decode cX12_putsTogether 9 = .ok (.iload_n 3, 1) := by decide +kernel
theorem dX12_putsTogether_10 : decode cX12_putsTogether 10 = .ok (.aload_n 0, 1) := by decide +kernel
theorem dX12_putsTogether_11 : decode cX12_putsTogether 11 = .ok (.getfield 28, 3) := by decide +kernel
theorem dX12_putsTogether_14 : decode cX12_putsTogether 14 = .ok (.iload_n 2, 1) := by decide +kernel
theorem dX12_putsTogether_15 : decode cX12_putsTogether 15 = .ok (.iaload, 1) := by decide +kernel
theorem dX12_putsTogether_16 : decode cX12_putsTogether 16 = .ok (.if_icmp .ge 59, 3) := by decide +kernel
theorem dX12_putsTogether_19 : decode cX12_putsTogether 19 = .ok (.aload_n 0, 1) := by decide +kernel
theorem dX12_putsTogether_20 : decode cX12_putsTogether 20 = .ok (.iload_n 2, 1) := by decide +kernel
theorem dX12_putsTogether_21 : decode cX12_putsTogether 21 = .ok (.iload_n 3, 1) := by decide +kernel
theorem dX12_putsTogether_22 : decode cX12_putsTogether 22 = .ok (.invokevirtual 162, 3) := by decide +kernel
theorem dX12_putsTogether_25 : decode cX12_putsTogether 25 = .ok (.istore 4, 2) := by decide +kernel
theorem dX12_putsTogether_27 : decode cX12_putsTogether 27 = .ok (.aload_n 0, 1) := by decide +kernel
theorem dX12_putsTogether_28 : decode cX12_putsTogether 28 = .ok (.bipush 122, 2) := by decide +kernel
theorem dX12_putsTogether_30 : decode cX12_putsTogether 30 = .ok (.iload 4, 2) := by decide +kernel
theorem dX12_putsTogether_32 : decode cX12_putsTogether 32 = .ok (.invokevirtual 632, 3) := by decide +kernel
theorem dX12_putsTogether_35 : decode cX12_putsTogether 35 = .ok (.istore 5, 2) := by decide +kernel
theorem dX12_putsTogether_37 : decode cX12_putsTogether 37 = .ok (.iload 5, 2) := by decide +kernel
theorem dX12_putsTogether_39 : decode cX12_putsTogether 39 = .ok (.ifCond .eq 16, 3) := by decide +kernel
theorem dX12_putsTogether_42 : decode cX12_putsTogether 42 = .ok (.iload 5, 2) := by decide +kernel
theorem dX12_putsTogether_44 : decode cX12_putsTogether 44 = .ok (.aload_n 0, 1) := by decide +kernel
theorem dX12_putsTogether_45 : decode cX12_putsTogether 45 = .ok (.iload_n 2, 1) := by decide +kernel
theorem dX12_putsTogether_46 : decode cX12_putsTogether 46 = .ok (.iload_n 3, 1) := by decide +kernel
theorem dX12_putsTogether_47 : decode cX12_putsTogether 47 = .ok (.invokevirtual 169, 3) := by decide +kernel
theorem dX12_putsTogether_50 : decode cX12_putsTogether 50 = .ok (.if_icmp .eq 5, 3) := by decide +kernel
theorem dX12_putsTogether_53 : decode cX12_putsTogether 53 = .ok (.iconst 0, 1) := by decide +kernel
theorem dX12_putsTogether_54 : decode cX12_putsTogether 54 = .ok (.ireturn, 1) := by decide +kernel
theorem dX12_putsTogether_55 : decode cX12_putsTogether 55 = .ok (.aload_n 0, 1) := by decide +kernel
theorem dX12_putsTogether_56 : decode cX12_putsTogether 56 = .ok (.bipush 122, 2) := by decide +kernel
theorem dX12_putsTogether_58 : decode cX12_putsTogether 58 = .ok (.iload 4, 2) := by decide +kernel
theorem dX12_putsTogether_60 : decode cX12_putsTogether 60 = .ok (.aload_n 0, 1) := by decide +kernel
theorem dX12_putsTogether_61 : decode cX12_putsTogether 61 = .ok (.iload_n 2, 1) := by decide +kernel
theorem dX12_putsTogether_62 : decode cX12_putsTogether 62 = .ok (.iload_n 3, 1) := by decide +kernel
theorem dX12_putsTogether_63 : decode cX12_putsTogether 63 = .ok (.invokevirtual 169, 3) := by decide +kernel
theorem dX12_putsTogether_66 : decode cX12_putsTogether 66 = .ok (.invokevirtual 309, 3) := by decide +kernel
theorem dX12_putsTogether_69 : decode cX12_putsTogether 69 = .ok (.iinc 3 1, 3) := by decide +kernel
theorem dX12_putsTogether_72 : decode cX12_putsTogether 72 = .ok (.goto (-63), 3) := by decide +kernel
theorem dX12_putsTogether_75 : decode cX12_putsTogether 75 = .ok (.aload_n 0, 1) := by decide +kernel
theorem dX12_putsTogether_76 : decode cX12_putsTogether 76 = .ok (.bipush 122, 2) := by decide +kernel
theorem dX12_putsTogether_78 : decode cX12_putsTogether 78 = .ok (.invokevirtual 635, 3) := by decide +kernel
theorem dX12_putsTogether_81 : decode cX12_putsTogether 81 = .ok (.ireturn, 1) := by decide +kernel
noncomputable def st_putsTogether : Nat × List Int × gM → Option ((Nat × List Int × gM) ⊕ (Int × gM))
  | (0, [x1, x2, x3], M) => (if 0 ≤ x2 ∧ x2 < 123 then
      (if x3 < (M 718 x2) then
        (Option.bind (F_pathAt M x2 x3) (fun r22 =>
          (Option.bind (F_contentBy M 122 r22) (fun r32 =>
            (if r32 = 0 then
              (Option.bind (F_contentAt M x2 x3) (fun r63 =>
                (Option.bind (F_puts M 122 r22 r63) (fun m66 =>
                  some (.inl (0, [x1, x2, (gw32 (x3 + 1))], m66))))))
            else
              (Option.bind (F_contentAt M x2 x3) (fun r47 =>
                (if r32 = r47 then
                  (Option.bind (F_contentAt M x2 x3) (fun r63 =>
                    (Option.bind (F_puts M 122 r22 r63) (fun m66 =>
                      some (.inl (0, [x1, x2, (gw32 (x3 + 1))], m66))))))
                else
                  some (.inr (0, M))))))))))
      else
        (Option.bind (F_isTree M 122) (fun r78 =>
          some (.inr (r78, M)))))
    else none)
  | _ => none
theorem sk_putsTogether_9 (k : Nat × List Int × gM → Option (Int × gM)) (M : gM) (x1 x2 x3 : Int) : gWk k (st_putsTogether (0, [x1, x2, x3], M)) = (if 0 ≤ x2 ∧ x2 < 123 then
    (if x3 < (M 718 x2) then
      (Option.bind (F_pathAt M x2 x3) (fun r22 =>
        (Option.bind (F_contentBy M 122 r22) (fun r32 =>
          (if r32 = 0 then
            (Option.bind (F_contentAt M x2 x3) (fun r63 =>
              (Option.bind (F_puts M 122 r22 r63) (fun m66 =>
                k (0, [x1, x2, (gw32 (x3 + 1))], m66)))))
          else
            (Option.bind (F_contentAt M x2 x3) (fun r47 =>
              (if r32 = r47 then
                (Option.bind (F_contentAt M x2 x3) (fun r63 =>
                  (Option.bind (F_puts M 122 r22 r63) (fun m66 =>
                    k (0, [x1, x2, (gw32 (x3 + 1))], m66)))))
              else
                some (0, M)))))))))
    else
      (Option.bind (F_isTree M 122) (fun r78 =>
        some (r78, M))))
  else none) := by
  simp only [st_putsTogether, gWk_ite, gWk_bind, gWk_inl, gWk_inr, gWk_none]
noncomputable def F_putsTogether_9 (M : gM) (x1 x2 x3 : Int) : Option (Int × gM) := gWh (st_putsTogether) (0, [x1, x2, x3], M)
theorem eq_putsTogether_9 (M : gM) (x1 x2 x3 : Int) : F_putsTogether_9 M x1 x2 x3 = (if 0 ≤ x2 ∧ x2 < 123 then
    (if x3 < (M 718 x2) then
      (Option.bind (F_pathAt M x2 x3) (fun r22 =>
        (Option.bind (F_contentBy M 122 r22) (fun r32 =>
          (if r32 = 0 then
            (Option.bind (F_contentAt M x2 x3) (fun r63 =>
              (Option.bind (F_puts M 122 r22 r63) (fun m66 =>
                F_putsTogether_9 m66 x1 x2 (gw32 (x3 + 1))))))
          else
            (Option.bind (F_contentAt M x2 x3) (fun r47 =>
              (if r32 = r47 then
                (Option.bind (F_contentAt M x2 x3) (fun r63 =>
                  (Option.bind (F_puts M 122 r22 r63) (fun m66 =>
                    F_putsTogether_9 m66 x1 x2 (gw32 (x3 + 1))))))
              else
                some (0, M)))))))))
    else
      (Option.bind (F_isTree M 122) (fun r78 =>
        some (r78, M))))
  else none) := (gWh_eq _).trans (sk_putsTogether_9 _ M x1 x2 x3)
noncomputable def F_putsTogether (M : gM) (a1 a2 : Int) : Option (Int × gM) := (Option.bind (F_copyTree M a1 122) (fun m4 =>
    F_putsTogether_9 m4 a1 a2 0))
theorem eq_putsTogether (M : gM) (a1 a2 : Int) : F_putsTogether M a1 a2 = (Option.bind (F_copyTree M a1 122) (fun m4 =>
    F_putsTogether_9 m4 a1 a2 0)) := rfl
theorem frp_putsTogether : ∀ (s : Nat × List Int × gM) (b : Int × gM), gWh (st_putsTogether) s = some b → (∀ (x1 x2 x3 : Int) (M : gM), s = (0, [x1, x2, x3], M) → gFr [718, 719, 720] [] M b.2) := by
  refine gWh_ind (fun k hk s b h => ?_)
  · rintro x1 x2 x3 M rfl
    rw [sk_putsTogether_9] at h
    obtain ⟨g1, h⟩ := gI_gd h
    rcases gI_or h with h | h
    · obtain ⟨r22, e22, h⟩ := gI_bd h
      obtain ⟨r32, e32, h⟩ := gI_bd h
      rcases gI_or h with h | h
      · obtain ⟨r63, e63, h⟩ := gI_bd h
        obtain ⟨m66, e66, h⟩ := gI_bd h
        exact gFr_t (gFr_t (gFr_r [718, 719, 720] [] _) (fr_puts (b := m66) e66) (by first | decide | simp) (by decide)) ((hk _ _ h) _ _ _ _ rfl) (fun _ z => z) (fun _ z => z)
      · obtain ⟨r47, e47, h⟩ := gI_bd h
        rcases gI_or h with h | h
        · obtain ⟨r63, e63, h⟩ := gI_bd h
          obtain ⟨m66, e66, h⟩ := gI_bd h
          exact gFr_t (gFr_t (gFr_r [718, 719, 720] [] _) (fr_puts (b := m66) e66) (by first | decide | simp) (by decide)) ((hk _ _ h) _ _ _ _ rfl) (fun _ z => z) (fun _ z => z)
        · rw [← Option.some.inj h]
          exact (gFr_r [718, 719, 720] [] _)
    · obtain ⟨r78, e78, h⟩ := gI_bd h
      rw [← Option.some.inj h]
      exact (gFr_r [718, 719, 720] [] _)
theorem fr_putsTogether_9 {M : gM} {x1 x2 x3 : Int} {b : Int × gM} (h : F_putsTogether_9 M x1 x2 x3 = some b) : gFr [718, 719, 720] [] M b.2 :=
  (frp_putsTogether _ _ h) _ _ _ _ rfl
theorem fr_putsTogether {M : gM} {a1 a2 : Int} {b : Int × gM} (h : F_putsTogether M a1 a2 = some b) : gFr [718, 719, 720] [] M b.2 := by
  rw [eq_putsTogether] at h
  obtain ⟨m4, e4, h⟩ := gI_bd h
  exact gFr_t (gFr_t (gFr_r [718, 719, 720] [] _) (fr_copyTree (b := m4) e4) (by first | decide | simp) (by decide)) (fr_putsTogether_9 h) (fun _ z => z) (fun _ z => z)
theorem bop_putsTogether : ∀ (s : Nat × List Int × gM) (b : Int × gM), gWh (st_putsTogether) s = some b → (∀ (x1 x2 x3 : Int) (M : gM), s = (0, [x1, x2, x3], M) → b.1 = 0 ∨ b.1 = 1) := by
  refine gWh_ind (fun k hk s b h => ?_)
  · rintro x1 x2 x3 M rfl
    rw [sk_putsTogether_9] at h
    obtain ⟨g1, h⟩ := gI_gd h
    rcases gI_or h with h | h
    · obtain ⟨r22, e22, h⟩ := gI_bd h
      obtain ⟨r32, e32, h⟩ := gI_bd h
      rcases gI_or h with h | h
      · obtain ⟨r63, e63, h⟩ := gI_bd h
        obtain ⟨m66, e66, h⟩ := gI_bd h
        exact (hk _ _ h) _ _ _ _ rfl
      · obtain ⟨r47, e47, h⟩ := gI_bd h
        rcases gI_or h with h | h
        · obtain ⟨r63, e63, h⟩ := gI_bd h
          obtain ⟨m66, e66, h⟩ := gI_bd h
          exact (hk _ _ h) _ _ _ _ rfl
        · rw [← Option.some.inj h]
          exact (Or.inl rfl)
    · obtain ⟨r78, e78, h⟩ := gI_bd h
      rw [← Option.some.inj h]
      exact (bo_isTree (b := r78) e78)
theorem bo_putsTogether_9 {M : gM} {x1 x2 x3 : Int} {b : Int × gM} (h : F_putsTogether_9 M x1 x2 x3 = some b) : b.1 = 0 ∨ b.1 = 1 :=
  (bop_putsTogether _ _ h) _ _ _ _ rfl
theorem bo_putsTogether {M : gM} {a1 a2 : Int} {b : Int × gM} (h : F_putsTogether M a1 a2 = some b) : b.1 = 0 ∨ b.1 = 1 := by
  rw [eq_putsTogether] at h
  obtain ⟨m4, e4, h⟩ := gI_bd h
  exact bo_putsTogether_9 h
theorem okp_putsTogether {sh : gS} : ∀ (s : Nat × List Int × gM) (b : Int × gM), gWh (st_putsTogether) s = some b → (∀ (x1 x2 x3 : Int) (M : gM), s = (0, [x1, x2, x3], M) → gOK sh M → gA (gr 4 90) yX12_putsTogether cX12_putsTogether 6 (some (.boolean)) (gPq sh (some (0, b.1)) b.2) (0, 0) 9 [(4, 711), (0, x1), (0, x2), (0, x3), (9, 0), (9, 0)] [] sh M) := by
  refine gWh_ind (fun k hk s b h => ?_)
  · rintro x1 x2 x3 M rfl hOK
    rw [sk_putsTogether_9] at h
    refine g_iload_n (q0 := 10) (j := 3) rfl dX12_putsTogether_9 rfl ?_
    refine g_aload_n (q0 := 11) (j := 0) rfl dX12_putsTogether_10 rfl ?_
    refine g_getp (q0 := 14) (b := 718) rfl ff_X12_28 dX12_putsTogether_11 rfl hOK (by decide) (sh_711 hOK) rfl (by decide) ?_
    refine g_iload_n (q0 := 15) (j := 2) rfl dX12_putsTogether_14 rfl ?_
    obtain ⟨g1, h⟩ := gI_gd h
    refine g_iald (q0 := 16) rfl dX12_putsTogether_15 (sh_718 hOK) g1.1 g1.2 ?_
    refine g_icmp_ge (q0 := 19) (tgt := 75) rfl dX12_putsTogether_16 (by decide) (fun h16 => ?_) (fun h16 => ?_)
    · replace h := gI_neg (Int.not_lt.mpr h16) h
      refine g_aload_n (q0 := 76) (j := 0) rfl dX12_putsTogether_75 rfl ?_
      refine g_bipush (q0 := 78) rfl dX12_putsTogether_76 (k := ?_)
      obtain ⟨r78, e78, h⟩ := gI_bd h
      refine g_callVq1 (as := [_]) (rest := []) mt_X12_isTree mi_X12_isTree se_X12_isTree ml_X12_635 dX12_putsTogether_78 (q0 := 81) rfl rfl (sh_711 hOK) rfl rfl (ok_isTree hOK e78) rfl ⟨by decide, by decide⟩ (Nat.le_of_ble_eq_true rfl) ⟨Nat.zero_le _, Nat.zero_le _⟩ ?_
      rw [← Option.some.inj h]
      refine g_zreturn dX12_putsTogether_81 rfl (gnz (bo_isTree (b := r78) e78)) ⟨Nat.zero_le _, Nat.zero_le _⟩ ?_
      exact ⟨rfl, rfl, rfl⟩
    · replace h := gI_pos h16 h
      refine g_aload_n (q0 := 20) (j := 0) rfl dX12_putsTogether_19 rfl ?_
      refine g_iload_n (q0 := 21) (j := 2) rfl dX12_putsTogether_20 rfl ?_
      refine g_iload_n (q0 := 22) (j := 3) rfl dX12_putsTogether_21 rfl ?_
      obtain ⟨r22, e22, h⟩ := gI_bd h
      refine g_callVq1 (as := [_, _]) (rest := []) mt_X12_pathAt mi_X12_pathAt se_X12_pathAt ml_X12_162 dX12_putsTogether_22 (q0 := 25) rfl rfl (sh_711 hOK) rfl rfl (ok_pathAt hOK e22) rfl ⟨by decide, by decide⟩ (Nat.le_of_ble_eq_true rfl) ⟨Nat.zero_le _, Nat.zero_le _⟩ ?_
      refine g_istore (q0 := 27) (j := 4) (lv2 := [_, _, _, _, _, _]) rfl dX12_putsTogether_25 (by decide) rfl rfl ?_
      refine g_aload_n (q0 := 28) (j := 0) rfl dX12_putsTogether_27 rfl ?_
      refine g_bipush (q0 := 30) rfl dX12_putsTogether_28 (k := ?_)
      refine g_iload (q0 := 32) (j := 4) rfl dX12_putsTogether_30 rfl ?_
      obtain ⟨r32, e32, h⟩ := gI_bd h
      refine g_callVq1 (as := [_, _]) (rest := []) mt_X12_contentBy mi_X12_contentBy se_X12_contentBy ml_X12_632 dX12_putsTogether_32 (q0 := 35) rfl rfl (sh_711 hOK) rfl rfl (ok_contentBy hOK e32) rfl ⟨by decide, by decide⟩ (Nat.le_of_ble_eq_true rfl) ⟨Nat.zero_le _, Nat.zero_le _⟩ ?_
      refine g_istore (q0 := 37) (j := 5) (lv2 := [_, _, _, _, _, _]) rfl dX12_putsTogether_35 (by decide) rfl rfl ?_
      refine g_iload (q0 := 39) (j := 5) rfl dX12_putsTogether_37 rfl ?_
      refine g_if_eq (q0 := 42) (tgt := 55) rfl dX12_putsTogether_39 (by decide) (fun h39 => ?_) (fun h39 => ?_)
      · replace h := gI_pos h39 h
        refine g_aload_n (q0 := 56) (j := 0) rfl dX12_putsTogether_55 rfl ?_
        refine g_bipush (q0 := 58) rfl dX12_putsTogether_56 (k := ?_)
        refine g_iload (q0 := 60) (j := 4) rfl dX12_putsTogether_58 rfl ?_
        refine g_aload_n (q0 := 61) (j := 0) rfl dX12_putsTogether_60 rfl ?_
        refine g_iload_n (q0 := 62) (j := 2) rfl dX12_putsTogether_61 rfl ?_
        refine g_iload_n (q0 := 63) (j := 3) rfl dX12_putsTogether_62 rfl ?_
        obtain ⟨r63, e63, h⟩ := gI_bd h
        refine g_callVq1 (as := [_, _]) (rest := [_, _, _]) mt_X12_contentAt mi_X12_contentAt se_X12_contentAt ml_X12_169 dX12_putsTogether_63 (q0 := 66) rfl rfl (sh_711 hOK) rfl rfl (ok_contentAt hOK e63) rfl ⟨by decide, by decide⟩ (Nat.le_of_ble_eq_true rfl) ⟨Nat.zero_le _, Nat.zero_le _⟩ ?_
        obtain ⟨m66, e66, h⟩ := gI_bd h
        refine g_callVq0 (as := [_, _, _]) (rest := []) mt_X12_puts mi_X12_puts se_X12_puts ml_X12_309 dX12_putsTogether_66 (q0 := 69) rfl rfl (sh_711 hOK) rfl rfl (ok_puts hOK e66) rfl ⟨by decide, by decide⟩ (Nat.le_of_ble_eq_true rfl) ⟨Nat.zero_le _, Nat.zero_le _⟩ ?_
        have hOK2 : gOK sh m66 := gOK_fr hOK (fr_puts (b := m66) e66) (by first | decide | (intro a ha; simp only [List.mem_cons, List.not_mem_nil, or_false] at ha; omega)) (by decide)
        refine g_iincw (q0 := 72) (lv2 := [_, _, _, _, _, _]) rfl dX12_putsTogether_69 rfl (by decide) rfl rfl ?_
        refine g_goto (tgt := 9) dX12_putsTogether_72 (by decide) ?_
        refine gA_jk (lv1 := [_, _, _, _, (9, 0), (9, 0)]) ⟨.inl rfl, .inl rfl, .inl rfl, .inl rfl, .inr rfl, .inr rfl, trivial⟩ ?_
        exact (hk _ _ h) _ _ _ _ rfl hOK2
      · replace h := gI_neg h39 h
        refine g_iload (q0 := 44) (j := 5) rfl dX12_putsTogether_42 rfl ?_
        refine g_aload_n (q0 := 45) (j := 0) rfl dX12_putsTogether_44 rfl ?_
        refine g_iload_n (q0 := 46) (j := 2) rfl dX12_putsTogether_45 rfl ?_
        refine g_iload_n (q0 := 47) (j := 3) rfl dX12_putsTogether_46 rfl ?_
        obtain ⟨r47, e47, h⟩ := gI_bd h
        refine g_callVq1 (as := [_, _]) (rest := [_]) mt_X12_contentAt mi_X12_contentAt se_X12_contentAt ml_X12_169 dX12_putsTogether_47 (q0 := 50) rfl rfl (sh_711 hOK) rfl rfl (ok_contentAt hOK e47) rfl ⟨by decide, by decide⟩ (Nat.le_of_ble_eq_true rfl) ⟨Nat.zero_le _, Nat.zero_le _⟩ ?_
        refine g_icmp_eq (q0 := 53) (tgt := 55) rfl dX12_putsTogether_50 (by decide) (fun h50 => ?_) (fun h50 => ?_)
        · replace h := gI_pos h50 h
          refine g_aload_n (q0 := 56) (j := 0) rfl dX12_putsTogether_55 rfl ?_
          refine g_bipush (q0 := 58) rfl dX12_putsTogether_56 (k := ?_)
          refine g_iload (q0 := 60) (j := 4) rfl dX12_putsTogether_58 rfl ?_
          refine g_aload_n (q0 := 61) (j := 0) rfl dX12_putsTogether_60 rfl ?_
          refine g_iload_n (q0 := 62) (j := 2) rfl dX12_putsTogether_61 rfl ?_
          refine g_iload_n (q0 := 63) (j := 3) rfl dX12_putsTogether_62 rfl ?_
          obtain ⟨r63, e63, h⟩ := gI_bd h
          refine g_callVq1 (as := [_, _]) (rest := [_, _, _]) mt_X12_contentAt mi_X12_contentAt se_X12_contentAt ml_X12_169 dX12_putsTogether_63 (q0 := 66) rfl rfl (sh_711 hOK) rfl rfl (ok_contentAt hOK e63) rfl ⟨by decide, by decide⟩ (Nat.le_of_ble_eq_true rfl) ⟨Nat.zero_le _, Nat.zero_le _⟩ ?_
          obtain ⟨m66, e66, h⟩ := gI_bd h
          refine g_callVq0 (as := [_, _, _]) (rest := []) mt_X12_puts mi_X12_puts se_X12_puts ml_X12_309 dX12_putsTogether_66 (q0 := 69) rfl rfl (sh_711 hOK) rfl rfl (ok_puts hOK e66) rfl ⟨by decide, by decide⟩ (Nat.le_of_ble_eq_true rfl) ⟨Nat.zero_le _, Nat.zero_le _⟩ ?_
          have hOK3 : gOK sh m66 := gOK_fr hOK (fr_puts (b := m66) e66) (by first | decide | (intro a ha; simp only [List.mem_cons, List.not_mem_nil, or_false] at ha; omega)) (by decide)
          refine g_iincw (q0 := 72) (lv2 := [_, _, _, _, _, _]) rfl dX12_putsTogether_69 rfl (by decide) rfl rfl ?_
          refine g_goto (tgt := 9) dX12_putsTogether_72 (by decide) ?_
          refine gA_jk (lv1 := [_, _, _, _, (9, 0), (9, 0)]) ⟨.inl rfl, .inl rfl, .inl rfl, .inl rfl, .inr rfl, .inr rfl, trivial⟩ ?_
          exact (hk _ _ h) _ _ _ _ rfl hOK3
        · replace h := gI_neg h50 h
          refine g_iconst (q0 := 54) rfl dX12_putsTogether_53 (k := ?_)
          rw [← Option.some.inj h]
          refine g_zreturn dX12_putsTogether_54 rfl (gnz (Or.inl rfl)) ⟨Nat.zero_le _, Nat.zero_le _⟩ ?_
          exact ⟨rfl, rfl, rfl⟩
theorem ok_putsTogether_9 {sh : gS} {M : gM} {x1 x2 x3 : Int} {b : Int × gM} (hOK : gOK sh M) (h : F_putsTogether_9 M x1 x2 x3 = some b) : gA (gr 4 90) yX12_putsTogether cX12_putsTogether 6 (some (.boolean)) (gPq sh (some (0, b.1)) b.2) (0, 0) 9 [(4, 711), (0, x1), (0, x2), (0, x3), (9, 0), (9, 0)] [] sh M :=
  (okp_putsTogether _ _ h) _ _ _ _ rfl hOK
theorem ok_putsTogether {sh : gS} {M : gM} {a1 a2 : Int} {b : Int × gM} (hOK : gOK sh M) (h : F_putsTogether M a1 a2 = some b) : gC (gr 4 90) yX12_putsTogether cX12_putsTogether 6 (some (.boolean)) [(4, 711), (0, a1), (0, a2)] sh M (gPq sh (some (0, b.1)) b.2) := by
  rw [eq_putsTogether] at h
  refine gC_ofA (lv := [_, _, _, _, _, _]) (by decide +kernel) (Nat.le_of_ble_eq_true rfl) rfl (fun hMw hav => ?_)
  refine g_aload_n (q0 := 1) (j := 0) rfl dX12_putsTogether_0 rfl ?_
  refine g_iload_n (q0 := 2) (j := 1) rfl dX12_putsTogether_1 rfl ?_
  refine g_bipush (q0 := 4) rfl dX12_putsTogether_2 (k := ?_)
  obtain ⟨m4, e4, h⟩ := gI_bd h
  refine g_callVq0 (as := [_, _]) (rest := []) mt_X12_copyTree mi_X12_copyTree se_X12_copyTree ml_X12_202 dX12_putsTogether_4 (q0 := 7) rfl rfl (sh_711 hOK) rfl rfl (ok_copyTree hOK e4) rfl ⟨by decide, by decide⟩ (Nat.le_of_ble_eq_true rfl) ⟨Nat.zero_le _, Nat.zero_le _⟩ ?_
  have hOK4 : gOK sh m4 := gOK_fr hOK (fr_copyTree (b := m4) e4) (by first | decide | (intro a ha; simp only [List.mem_cons, List.not_mem_nil, or_false] at ha; omega)) (by decide)
  refine g_iconst (q0 := 8) rfl dX12_putsTogether_7 (k := ?_)
  refine g_istore_n (q0 := 9) (j := 3) (lv2 := [_, _, _, _, _, _]) rfl dX12_putsTogether_8 (by decide) rfl rfl ?_
  exact ok_putsTogether_9 hOK4 h
-- ==== join
theorem dX12_join_0 : decode cX12_join 0 = .ok (.iload_n 1, 1) := by decide +kernel
theorem dX12_join_1 : decode cX12_join 1 = .ok (.invokestatic 353, 3) := by decide +kernel
theorem dX12_join_4 : decode cX12_join 4 = .ok (.ifCond .eq 51, 3) := by decide +kernel
theorem dX12_join_7 : decode cX12_join 7 = .ok (.iload_n 2, 1) := by decide +kernel
theorem dX12_join_8 : decode cX12_join 8 = .ok (.iconst 0, 1) := by decide +kernel
theorem dX12_join_9 : decode cX12_join 9 = .ok (.bipush 25, 2) := by decide +kernel
theorem dX12_join_11 : decode cX12_join 11 = .ok (.invokestatic 182, 3) := by decide +kernel
theorem dX12_join_14 : decode cX12_join 14 = .ok (.ifCond .eq 41, 3) := by decide +kernel
theorem dX12_join_17 : decode cX12_join 17 = .ok (.iload_n 3, 1) := by decide +kernel
theorem dX12_join_18 : decode cX12_join 18 = .ok (.iconst 0, 1) := by decide +kernel
theorem dX12_join_19 : decode cX12_join 19 = .ok (.bipush 25, 2) := by decide +kernel
theorem dX12_join_21 : decode cX12_join 21 = .ok (.invokestatic 182, 3) := by decide +kernel
theorem dX12_join_24 : decode cX12_join 24 = .ok (.ifCond .eq 31, 3) := by decide +kernel
theorem dX12_join_27 : decode cX12_join 27 = .ok (.iload_n 2, 1) := by decide +kernel
theorem dX12_join_28 : decode cX12_join 28 = .ok (.iload_n 3, 1) := by decide +kernel
theorem dX12_join_29 : decode cX12_join 29 = .ok (.if_icmp .eq 26, 3) := by decide +kernel
theorem dX12_join_32 : decode cX12_join 32 = .ok (.iload 4, 2) := by decide +kernel
theorem dX12_join_34 : decode cX12_join 34 = .ok (.iconst 0, 1) := by decide +kernel
theorem dX12_join_35 : decode cX12_join 35 = .ok (.bipush 9, 2) := by decide +kernel
theorem dX12_join_37 : decode cX12_join 37 = .ok (.invokestatic 182, 3) := by decide +kernel
theorem dX12_join_40 : decode cX12_join 40 = .ok (.ifCond .eq 15, 3) := by decide +kernel
theorem dX12_join_43 : decode cX12_join 43 = .ok (.iload 5, 2) := by decide +kernel
theorem dX12_join_45 : decode cX12_join 45 = .ok (.iconst 0, 1) := by decide +kernel
theorem dX12_join_46 : decode cX12_join 46 = .ok (.sipush 999, 3) := by decide +kernel
theorem dX12_join_49 : decode cX12_join 49 = .ok (.invokestatic 182, 3) := by decide +kernel
theorem dX12_join_52 : decode cX12_join 52 = .ok (.ifCond .ne 5, 3) := by decide +kernel
theorem dX12_join_55 : decode cX12_join 55 = .ok (.iconst (-1), 1) := by decide +kernel
theorem dX12_join_56 : decode cX12_join 56 = .ok (.ireturn, 1) := by decide +kernel
theorem dX12_join_57 : decode cX12_join 57 = .ok (.aload_n 0, 1) := by decide +kernel
theorem dX12_join_58 : decode cX12_join 58 = .ok (.iload_n 1, 1) := by decide +kernel
theorem dX12_join_59 : decode cX12_join 59 = .ok (.iload_n 2, 1) := by decide +kernel
theorem dX12_join_60 : decode cX12_join 60 = .ok (.invokevirtual 638, 3) := by decide +kernel
theorem dX12_join_63 : decode cX12_join 63 = .ok (.istore 6, 2) := by decide +kernel
theorem dX12_join_65 : decode cX12_join 65 = .ok (.aload_n 0, 1) := by decide +kernel
theorem dX12_join_66 : decode cX12_join 66 = .ok (.iload_n 1, 1) := by decide +kernel
theorem dX12_join_67 : decode cX12_join 67 = .ok (.iload_n 3, 1) := by decide +kernel
theorem dX12_join_68 : decode cX12_join 68 = .ok (.invokevirtual 638, 3) := by decide +kernel
theorem dX12_join_71 : decode cX12_join 71 = .ok (.istore 7, 2) := by decide +kernel
theorem dX12_join_73 : decode cX12_join 73 = .ok (.iload 6, 2) := by decide +kernel
theorem dX12_join_75 : decode cX12_join 75 = .ok (.iconst (-1), 1) := by decide +kernel
theorem dX12_join_76 : decode cX12_join 76 = .ok (.if_icmp .eq 9, 3) := by decide +kernel
theorem dX12_join_79 : decode cX12_join 79 = .ok (.iload 7, 2) := by decide +kernel
theorem dX12_join_81 : decode cX12_join 81 = .ok (.iconst (-1), 1) := by decide +kernel
theorem dX12_join_82 : decode cX12_join 82 = .ok (.if_icmp .ne 6, 3) := by decide +kernel
theorem dX12_join_85 : decode cX12_join 85 = .ok (.bipush (-4), 2) := by decide +kernel
theorem dX12_join_87 : decode cX12_join 87 = .ok (.ireturn, 1) := by decide +kernel
theorem dX12_join_88 : decode cX12_join 88 = .ok (.iload 6, 2) := by decide +kernel
theorem dX12_join_90 : decode cX12_join 90 = .ok (.iload 7, 2) := by decide +kernel
theorem dX12_join_92 : decode cX12_join 92 = .ok (.if_icmp .eq 25, 3) := by decide +kernel
theorem dX12_join_95 : decode cX12_join 95 = .ok (.aload_n 0, 1) := by decide +kernel
theorem dX12_join_96 : decode cX12_join 96 = .ok (.iload 6, 2) := by decide +kernel
theorem dX12_join_98 : decode cX12_join 98 = .ok (.iload 7, 2) := by decide +kernel
theorem dX12_join_100 : decode cX12_join 100 = .ok (.invokevirtual 246, 3) := by decide +kernel
theorem dX12_join_103 : decode cX12_join 103 = .ok (.ifCond .ne 14, 3) := by decide +kernel
theorem dX12_join_106 : decode cX12_join 106 = .ok (.aload_n 0, 1) := by decide +kernel
theorem dX12_join_107 : decode cX12_join 107 = .ok (.iload 7, 2) := by decide +kernel
theorem dX12_join_109 : decode cX12_join 109 = .ok (.iload 6, 2) := by decide +kernel
theorem dX12_join_111 : decode cX12_join 111 = .ok (.invokevirtual 246, 3) := by decide +kernel
theorem dX12_join_114 : decode cX12_join 114 = .ok (.ifCond .eq 6, 3) := by decide +kernel
theorem dX12_join_117 : decode cX12_join 117 = .ok (.bipush (-7), 2) := by decide +kernel
theorem dX12_join_119 : decode cX12_join 119 = .ok (.ireturn, 1) := by decide +kernel
theorem dX12_join_120 : decode cX12_join 120 = .ok (.aload_n 0, 1) := by decide +kernel
theorem dX12_join_121 : decode cX12_join 121 = .ok (.iload 6, 2) := by decide +kernel
theorem dX12_join_123 : decode cX12_join 123 = .ok (.iload 7, 2) := by decide +kernel
theorem dX12_join_125 : decode cX12_join 125 = .ok (.invokevirtual 641, 3) := by decide +kernel
theorem dX12_join_128 : decode cX12_join 128 = .ok (.ifCond .ne 6, 3) := by decide +kernel
theorem dX12_join_131 : decode cX12_join 131 = .ok (.bipush (-6), 2) := by decide +kernel
theorem dX12_join_133 : decode cX12_join 133 = .ok (.ireturn, 1) := by decide +kernel
theorem dX12_join_134 : decode cX12_join 134 = .ok (.aload_n 0, 1) := by decide +kernel
theorem dX12_join_135 : decode cX12_join 135 = .ok (.getfield 28, 3) := by decide +kernel
theorem dX12_join_138 : decode cX12_join 138 = .ok (.bipush 122, 2) := by decide +kernel
theorem dX12_join_140 : decode cX12_join 140 = .ok (.iaload, 1) := by decide +kernel
theorem dX12_join_141 : decode cX12_join 141 = .ok (.bipush 16, 2) := by decide +kernel
theorem dX12_join_143 : decode cX12_join 143 = .ok (.if_icmp .le 6, 3) := by decide +kernel
theorem dX12_join_146 : decode cX12_join 146 = .ok (.bipush (-5), 2) := by decide +kernel
theorem dX12_join_148 : decode cX12_join 148 = .ok (.ireturn, 1) := by decide +kernel
theorem dX12_join_149 : decode cX12_join 149 = .ok (.aload_n 0, 1) := by decide +kernel
theorem dX12_join_150 : decode cX12_join 150 = .ok (.iconst 2, 1) := by decide +kernel
theorem dX12_join_151 : decode cX12_join 151 = .ok (.putfield 186, 3) := by decide +kernel
theorem dX12_join_154 : decode cX12_join 154 = .ok (.aload_n 0, 1) := by decide +kernel
theorem dX12_join_155 : decode cX12_join 155 = .ok (.getfield 37, 3) := by decide +kernel
theorem dX12_join_158 : decode cX12_join 158 = .ok (.iconst 0, 1) := by decide +kernel
theorem dX12_join_159 : decode cX12_join 159 = .ok (.iload 6, 2) := by decide +kernel
theorem dX12_join_161 : decode cX12_join 161 = .ok (.iastore, 1) := by decide +kernel
theorem dX12_join_162 : decode cX12_join 162 = .ok (.aload_n 0, 1) := by decide +kernel
theorem dX12_join_163 : decode cX12_join 163 = .ok (.getfield 37, 3) := by decide +kernel
theorem dX12_join_166 : decode cX12_join 166 = .ok (.iconst 1, 1) := by decide +kernel
theorem dX12_join_167 : decode cX12_join 167 = .ok (.iload 7, 2) := by decide +kernel
theorem dX12_join_169 : decode cX12_join 169 = .ok (.iastore, 1) := by decide +kernel
theorem dX12_join_170 : decode cX12_join 170 = .ok (.aload_n 0, 1) := by decide +kernel
theorem dX12_join_171 : decode cX12_join 171 = .ok (.iconst 0, 1) := by decide +kernel
theorem dX12_join_172 : decode cX12_join 172 = .ok (.putfield 189, 3) := by decide +kernel
theorem dX12_join_175 : decode cX12_join 175 = .ok (.aload_n 0, 1) := by decide +kernel
theorem dX12_join_176 : decode cX12_join 176 = .ok (.bipush 122, 2) := by decide +kernel
theorem dX12_join_178 : decode cX12_join 178 = .ok (.iload 4, 2) := by decide +kernel
theorem dX12_join_180 : decode cX12_join 180 = .ok (.iload 5, 2) := by decide +kernel
theorem dX12_join_182 : decode cX12_join 182 = .ok (.invokevirtual 350, 3) := by decide +kernel
theorem dX12_join_185 : decode cX12_join 185 = .ok (.istore 8, 2) := by decide +kernel
theorem dX12_join_187 : decode cX12_join 187 = .ok (.iload 8, 2) := by decide +kernel
theorem dX12_join_189 : decode cX12_join 189 = .ok (.ifCond .lt 12, 3) := by decide +kernel
theorem dX12_join_192 : decode cX12_join 192 = .ok (.aload_n 0, 1) := by decide +kernel
theorem dX12_join_193 : decode cX12_join 193 = .ok (.iload_n 1, 1) := by decide +kernel
theorem dX12_join_194 : decode cX12_join 194 = .ok (.iload_n 2, 1) := by decide +kernel
theorem dX12_join_195 : decode cX12_join 195 = .ok (.iload 8, 2) := by decide +kernel
theorem dX12_join_197 : decode cX12_join 197 = .ok (.iconst (-1), 1) := by decide +kernel
theorem dX12_join_198 : decode cX12_join 198 = .ok (.invokevirtual 359, 3) := by decide +kernel
theorem dX12_join_201 : decode cX12_join 201 = .ok (.iload 8, 2) := by decide +kernel
theorem dX12_join_203 : decode cX12_join 203 = .ok (.ireturn, 1) := by decide +kernel
noncomputable def F_join (M : gM) (a1 a2 a3 a4 a5 : Int) : Option (Int × gM) := (Option.bind (F_isHistory a1) (fun r1 =>
    (if r1 = 0 then
      some (-1, M)
    else
      (Option.bind (F_in a2 0 25) (fun r11 =>
        (if r11 = 0 then
          some (-1, M)
        else
          (Option.bind (F_in a3 0 25) (fun r21 =>
            (if r21 = 0 then
              some (-1, M)
            else
              (if a2 = a3 then
                some (-1, M)
              else
                (Option.bind (F_in a4 0 9) (fun r37 =>
                  (if r37 = 0 then
                    some (-1, M)
                  else
                    (Option.bind (F_in a5 0 999) (fun r49 =>
                      (if r49 = 0 then
                        some (-1, M)
                      else
                        (Option.bind (F_branchAt M a1 a2) (fun r60 =>
                          (Option.bind (F_branchAt M a1 a3) (fun r68 =>
                            (if r60 = -1 then
                              some (-4, M)
                            else
                              (if r68 = -1 then
                                some (-4, M)
                              else
                                (if r60 = r68 then
                                  some (-7, M)
                                else
                                  (Option.bind (F_isAncestor M r60 r68) (fun p100 =>
                                    (if p100.1 = 0 then
                                      (Option.bind (F_isAncestor p100.2 r68 r60) (fun p111 =>
                                        (if p111.1 = 0 then
                                          (Option.bind (F_putsTogether p111.2 r60 r68) (fun p125 =>
                                            (if p125.1 = 0 then
                                              some (-6, p125.2)
                                            else
                                              (if (16 : Int) < (p125.2 718 122) then
                                                some (-5, p125.2)
                                              else
                                                (Option.bind (F_comes (gU (gU (gU (gU p125.2 711 12 2) 721 0 r60) 721 1 r68) 711 13 0) 122 a4 a5) (fun p182 =>
                                                  (if p182.1 < 0 then
                                                    some (p182.1, p182.2)
                                                  else
                                                    (Option.bind (F_laysRef p182.2 a1 a2 p182.1 (-1)) (fun m198 =>
                                                      some (p182.1, m198))))))))))
                                        else
                                          some (-7, p111.2))))
                                    else
                                      some (-7, p100.2)))))))))))))))))))))))))))
theorem eq_join (M : gM) (a1 a2 a3 a4 a5 : Int) : F_join M a1 a2 a3 a4 a5 = (Option.bind (F_isHistory a1) (fun r1 =>
    (if r1 = 0 then
      some (-1, M)
    else
      (Option.bind (F_in a2 0 25) (fun r11 =>
        (if r11 = 0 then
          some (-1, M)
        else
          (Option.bind (F_in a3 0 25) (fun r21 =>
            (if r21 = 0 then
              some (-1, M)
            else
              (if a2 = a3 then
                some (-1, M)
              else
                (Option.bind (F_in a4 0 9) (fun r37 =>
                  (if r37 = 0 then
                    some (-1, M)
                  else
                    (Option.bind (F_in a5 0 999) (fun r49 =>
                      (if r49 = 0 then
                        some (-1, M)
                      else
                        (Option.bind (F_branchAt M a1 a2) (fun r60 =>
                          (Option.bind (F_branchAt M a1 a3) (fun r68 =>
                            (if r60 = -1 then
                              some (-4, M)
                            else
                              (if r68 = -1 then
                                some (-4, M)
                              else
                                (if r60 = r68 then
                                  some (-7, M)
                                else
                                  (Option.bind (F_isAncestor M r60 r68) (fun p100 =>
                                    (if p100.1 = 0 then
                                      (Option.bind (F_isAncestor p100.2 r68 r60) (fun p111 =>
                                        (if p111.1 = 0 then
                                          (Option.bind (F_putsTogether p111.2 r60 r68) (fun p125 =>
                                            (if p125.1 = 0 then
                                              some (-6, p125.2)
                                            else
                                              (if (16 : Int) < (p125.2 718 122) then
                                                some (-5, p125.2)
                                              else
                                                (Option.bind (F_comes (gU (gU (gU (gU p125.2 711 12 2) 721 0 r60) 721 1 r68) 711 13 0) 122 a4 a5) (fun p182 =>
                                                  (if p182.1 < 0 then
                                                    some (p182.1, p182.2)
                                                  else
                                                    (Option.bind (F_laysRef p182.2 a1 a2 p182.1 (-1)) (fun m198 =>
                                                      some (p182.1, m198))))))))))
                                        else
                                          some (-7, p111.2))))
                                    else
                                      some (-7, p100.2))))))))))))))))))))))))))) := rfl
theorem fr_join {M : gM} {a1 a2 a3 a4 a5 : Int} {b : Int × gM} (h : F_join M a1 a2 a3 a4 a5 = some b) : gFr [712, 713, 714, 715, 716, 717, 718, 719, 720, 721, 723, 727, 728] [0, 12, 13] M b.2 := by
  rw [eq_join] at h
  obtain ⟨r1, e1, h⟩ := gI_bd h
  rcases gI_or h with h | h
  · rw [← Option.some.inj h]
    exact (gFr_r [712, 713, 714, 715, 716, 717, 718, 719, 720, 721, 723, 727, 728] [0, 12, 13] _)
  · obtain ⟨r11, e11, h⟩ := gI_bd h
    rcases gI_or h with h | h
    · rw [← Option.some.inj h]
      exact (gFr_r [712, 713, 714, 715, 716, 717, 718, 719, 720, 721, 723, 727, 728] [0, 12, 13] _)
    · obtain ⟨r21, e21, h⟩ := gI_bd h
      rcases gI_or h with h | h
      · rw [← Option.some.inj h]
        exact (gFr_r [712, 713, 714, 715, 716, 717, 718, 719, 720, 721, 723, 727, 728] [0, 12, 13] _)
      · rcases gI_or h with h | h
        · rw [← Option.some.inj h]
          exact (gFr_r [712, 713, 714, 715, 716, 717, 718, 719, 720, 721, 723, 727, 728] [0, 12, 13] _)
        · obtain ⟨r37, e37, h⟩ := gI_bd h
          rcases gI_or h with h | h
          · rw [← Option.some.inj h]
            exact (gFr_r [712, 713, 714, 715, 716, 717, 718, 719, 720, 721, 723, 727, 728] [0, 12, 13] _)
          · obtain ⟨r49, e49, h⟩ := gI_bd h
            rcases gI_or h with h | h
            · rw [← Option.some.inj h]
              exact (gFr_r [712, 713, 714, 715, 716, 717, 718, 719, 720, 721, 723, 727, 728] [0, 12, 13] _)
            · obtain ⟨r60, e60, h⟩ := gI_bd h
              obtain ⟨r68, e68, h⟩ := gI_bd h
              rcases gI_or h with h | h
              · rw [← Option.some.inj h]
                exact (gFr_r [712, 713, 714, 715, 716, 717, 718, 719, 720, 721, 723, 727, 728] [0, 12, 13] _)
              · rcases gI_or h with h | h
                · rw [← Option.some.inj h]
                  exact (gFr_r [712, 713, 714, 715, 716, 717, 718, 719, 720, 721, 723, 727, 728] [0, 12, 13] _)
                · rcases gI_or h with h | h
                  · rw [← Option.some.inj h]
                    exact (gFr_r [712, 713, 714, 715, 716, 717, 718, 719, 720, 721, 723, 727, 728] [0, 12, 13] _)
                  · obtain ⟨p100, e100, h⟩ := gI_bd h
                    rcases gI_or h with h | h
                    · obtain ⟨p111, e111, h⟩ := gI_bd h
                      rcases gI_or h with h | h
                      · obtain ⟨p125, e125, h⟩ := gI_bd h
                        rcases gI_or h with h | h
                        · rw [← Option.some.inj h]
                          exact (gFr_t (gFr_t (gFr_t (gFr_r [712, 713, 714, 715, 716, 717, 718, 719, 720, 721, 723, 727, 728] [0, 12, 13] _) (fr_isAncestor (b := p100) e100) (by first | decide | simp) (by decide)) (fr_isAncestor (b := p111) e111) (by first | decide | simp) (by decide)) (fr_putsTogether (b := p125) e125) (by first | decide | simp) (by decide))
                        · rcases gI_or h with h | h
                          · rw [← Option.some.inj h]
                            exact (gFr_t (gFr_t (gFr_t (gFr_r [712, 713, 714, 715, 716, 717, 718, 719, 720, 721, 723, 727, 728] [0, 12, 13] _) (fr_isAncestor (b := p100) e100) (by first | decide | simp) (by decide)) (fr_isAncestor (b := p111) e111) (by first | decide | simp) (by decide)) (fr_putsTogether (b := p125) e125) (by first | decide | simp) (by decide))
                          · obtain ⟨p182, e182, h⟩ := gI_bd h
                            rcases gI_or h with h | h
                            · rw [← Option.some.inj h]
                              exact (gFr_t (gFr_f (gFr_a (gFr_a (gFr_f (gFr_t (gFr_t (gFr_t (gFr_r [712, 713, 714, 715, 716, 717, 718, 719, 720, 721, 723, 727, 728] [0, 12, 13] _) (fr_isAncestor (b := p100) e100) (by first | decide | simp) (by decide)) (fr_isAncestor (b := p111) e111) (by first | decide | simp) (by decide)) (fr_putsTogether (b := p125) e125) (by first | decide | simp) (by decide)) (.tail _ (.head _))) (.tail _ (.tail _ (.tail _ (.tail _ (.tail _ (.tail _ (.tail _ (.tail _ (.tail _ (.head _)))))))))) (by decide)) (.tail _ (.tail _ (.tail _ (.tail _ (.tail _ (.tail _ (.tail _ (.tail _ (.tail _ (.head _)))))))))) (by decide)) (.tail _ (.tail _ (.head _)))) (fr_comes (b := p182) e182) (by first | decide | simp) (by decide))
                            · obtain ⟨m198, e198, h⟩ := gI_bd h
                              rw [← Option.some.inj h]
                              exact (gFr_t (gFr_t (gFr_f (gFr_a (gFr_a (gFr_f (gFr_t (gFr_t (gFr_t (gFr_r [712, 713, 714, 715, 716, 717, 718, 719, 720, 721, 723, 727, 728] [0, 12, 13] _) (fr_isAncestor (b := p100) e100) (by first | decide | simp) (by decide)) (fr_isAncestor (b := p111) e111) (by first | decide | simp) (by decide)) (fr_putsTogether (b := p125) e125) (by first | decide | simp) (by decide)) (.tail _ (.head _))) (.tail _ (.tail _ (.tail _ (.tail _ (.tail _ (.tail _ (.tail _ (.tail _ (.tail _ (.head _)))))))))) (by decide)) (.tail _ (.tail _ (.tail _ (.tail _ (.tail _ (.tail _ (.tail _ (.tail _ (.tail _ (.head _)))))))))) (by decide)) (.tail _ (.tail _ (.head _)))) (fr_comes (b := p182) e182) (by first | decide | simp) (by decide)) (fr_laysRef (b := m198) e198) (by first | decide | simp) (by decide))
                      · rw [← Option.some.inj h]
                        exact (gFr_t (gFr_t (gFr_r [712, 713, 714, 715, 716, 717, 718, 719, 720, 721, 723, 727, 728] [0, 12, 13] _) (fr_isAncestor (b := p100) e100) (by first | decide | simp) (by decide)) (fr_isAncestor (b := p111) e111) (by first | decide | simp) (by decide))
                    · rw [← Option.some.inj h]
                      exact (gFr_t (gFr_r [712, 713, 714, 715, 716, 717, 718, 719, 720, 721, 723, 727, 728] [0, 12, 13] _) (fr_isAncestor (b := p100) e100) (by first | decide | simp) (by decide))
theorem ok_join {sh : gS} {M : gM} {a1 a2 a3 a4 a5 : Int} {b : Int × gM} (hOK : gOK sh M) (h : F_join M a1 a2 a3 a4 a5 = some b) : gC (gr 5 115) yX12_join cX12_join 9 (some (.int)) [(4, 711), (0, a1), (0, a2), (0, a3), (0, a4), (0, a5)] sh M (gPq sh (some (0, b.1)) b.2) := by
  rw [eq_join] at h
  refine gC_ofA (lv := [_, _, _, _, _, _, _, _, _]) (by decide +kernel) (Nat.le_of_ble_eq_true rfl) rfl (fun hMw hav => ?_)
  refine g_iload_n (q0 := 1) (j := 1) rfl dX12_join_0 rfl ?_
  obtain ⟨r1, e1, h⟩ := gI_bd h
  refine g_callSq1 (as := [_]) (rest := []) mt_X12_isHistory ms_X12_isHistory ml_X12_353 dX12_join_1 (q0 := 4) rfl rfl (ok_isHistory hOK e1) rfl ⟨by decide, by decide⟩ (Nat.le_of_ble_eq_true rfl) ⟨Nat.zero_le _, Nat.zero_le _⟩ ?_
  refine g_if_eq (q0 := 7) (tgt := 55) rfl dX12_join_4 (by decide) (fun h4 => ?_) (fun h4 => ?_)
  · replace h := gI_pos h4 h
    refine g_iconst (q0 := 56) rfl dX12_join_55 (k := ?_)
    rw [← Option.some.inj h]
    refine g_ireturn dX12_join_56 rfl ⟨Nat.zero_le _, Nat.zero_le _⟩ ?_
    exact ⟨rfl, rfl, rfl⟩
  · replace h := gI_neg h4 h
    refine g_iload_n (q0 := 8) (j := 2) rfl dX12_join_7 rfl ?_
    refine g_iconst (q0 := 9) rfl dX12_join_8 (k := ?_)
    refine g_bipush (q0 := 11) rfl dX12_join_9 (k := ?_)
    obtain ⟨r11, e11, h⟩ := gI_bd h
    refine g_callSq1 (as := [_, _, _]) (rest := []) mt_X12_in ms_X12_in ml_X12_182 dX12_join_11 (q0 := 14) rfl rfl (ok_in hOK e11) rfl ⟨by decide, by decide⟩ (Nat.le_of_ble_eq_true rfl) ⟨Nat.zero_le _, Nat.zero_le _⟩ ?_
    refine g_if_eq (q0 := 17) (tgt := 55) rfl dX12_join_14 (by decide) (fun h14 => ?_) (fun h14 => ?_)
    · replace h := gI_pos h14 h
      refine g_iconst (q0 := 56) rfl dX12_join_55 (k := ?_)
      rw [← Option.some.inj h]
      refine g_ireturn dX12_join_56 rfl ⟨Nat.zero_le _, Nat.zero_le _⟩ ?_
      exact ⟨rfl, rfl, rfl⟩
    · replace h := gI_neg h14 h
      refine g_iload_n (q0 := 18) (j := 3) rfl dX12_join_17 rfl ?_
      refine g_iconst (q0 := 19) rfl dX12_join_18 (k := ?_)
      refine g_bipush (q0 := 21) rfl dX12_join_19 (k := ?_)
      obtain ⟨r21, e21, h⟩ := gI_bd h
      refine g_callSq1 (as := [_, _, _]) (rest := []) mt_X12_in ms_X12_in ml_X12_182 dX12_join_21 (q0 := 24) rfl rfl (ok_in hOK e21) rfl ⟨by decide, by decide⟩ (Nat.le_of_ble_eq_true rfl) ⟨Nat.zero_le _, Nat.zero_le _⟩ ?_
      refine g_if_eq (q0 := 27) (tgt := 55) rfl dX12_join_24 (by decide) (fun h24 => ?_) (fun h24 => ?_)
      · replace h := gI_pos h24 h
        refine g_iconst (q0 := 56) rfl dX12_join_55 (k := ?_)
        rw [← Option.some.inj h]
        refine g_ireturn dX12_join_56 rfl ⟨Nat.zero_le _, Nat.zero_le _⟩ ?_
        exact ⟨rfl, rfl, rfl⟩
      · replace h := gI_neg h24 h
        refine g_iload_n (q0 := 28) (j := 2) rfl dX12_join_27 rfl ?_
        refine g_iload_n (q0 := 29) (j := 3) rfl dX12_join_28 rfl ?_
        refine g_icmp_eq (q0 := 32) (tgt := 55) rfl dX12_join_29 (by decide) (fun h29 => ?_) (fun h29 => ?_)
        · replace h := gI_pos h29 h
          refine g_iconst (q0 := 56) rfl dX12_join_55 (k := ?_)
          rw [← Option.some.inj h]
          refine g_ireturn dX12_join_56 rfl ⟨Nat.zero_le _, Nat.zero_le _⟩ ?_
          exact ⟨rfl, rfl, rfl⟩
        · replace h := gI_neg h29 h
          refine g_iload (q0 := 34) (j := 4) rfl dX12_join_32 rfl ?_
          refine g_iconst (q0 := 35) rfl dX12_join_34 (k := ?_)
          refine g_bipush (q0 := 37) rfl dX12_join_35 (k := ?_)
          obtain ⟨r37, e37, h⟩ := gI_bd h
          refine g_callSq1 (as := [_, _, _]) (rest := []) mt_X12_in ms_X12_in ml_X12_182 dX12_join_37 (q0 := 40) rfl rfl (ok_in hOK e37) rfl ⟨by decide, by decide⟩ (Nat.le_of_ble_eq_true rfl) ⟨Nat.zero_le _, Nat.zero_le _⟩ ?_
          refine g_if_eq (q0 := 43) (tgt := 55) rfl dX12_join_40 (by decide) (fun h40 => ?_) (fun h40 => ?_)
          · replace h := gI_pos h40 h
            refine g_iconst (q0 := 56) rfl dX12_join_55 (k := ?_)
            rw [← Option.some.inj h]
            refine g_ireturn dX12_join_56 rfl ⟨Nat.zero_le _, Nat.zero_le _⟩ ?_
            exact ⟨rfl, rfl, rfl⟩
          · replace h := gI_neg h40 h
            refine g_iload (q0 := 45) (j := 5) rfl dX12_join_43 rfl ?_
            refine g_iconst (q0 := 46) rfl dX12_join_45 (k := ?_)
            refine g_sipush (q0 := 49) rfl dX12_join_46 (k := ?_)
            obtain ⟨r49, e49, h⟩ := gI_bd h
            refine g_callSq1 (as := [_, _, _]) (rest := []) mt_X12_in ms_X12_in ml_X12_182 dX12_join_49 (q0 := 52) rfl rfl (ok_in hOK e49) rfl ⟨by decide, by decide⟩ (Nat.le_of_ble_eq_true rfl) ⟨Nat.zero_le _, Nat.zero_le _⟩ ?_
            refine g_if_ne (q0 := 55) (tgt := 57) rfl dX12_join_52 (by decide) (fun h52 => ?_) (fun h52 => ?_)
            · replace h := gI_neg h52 h
              refine g_aload_n (q0 := 58) (j := 0) rfl dX12_join_57 rfl ?_
              refine g_iload_n (q0 := 59) (j := 1) rfl dX12_join_58 rfl ?_
              refine g_iload_n (q0 := 60) (j := 2) rfl dX12_join_59 rfl ?_
              obtain ⟨r60, e60, h⟩ := gI_bd h
              refine g_callVq1 (as := [_, _]) (rest := []) mt_X12_branchAt mi_X12_branchAt se_X12_branchAt ml_X12_638 dX12_join_60 (q0 := 63) rfl rfl (sh_711 hOK) rfl rfl (ok_branchAt hOK e60) rfl ⟨by decide, by decide⟩ (Nat.le_of_ble_eq_true rfl) ⟨Nat.zero_le _, Nat.zero_le _⟩ ?_
              refine g_istore (q0 := 65) (j := 6) (lv2 := [_, _, _, _, _, _, _, _, _]) rfl dX12_join_63 (by decide) rfl rfl ?_
              refine g_aload_n (q0 := 66) (j := 0) rfl dX12_join_65 rfl ?_
              refine g_iload_n (q0 := 67) (j := 1) rfl dX12_join_66 rfl ?_
              refine g_iload_n (q0 := 68) (j := 3) rfl dX12_join_67 rfl ?_
              obtain ⟨r68, e68, h⟩ := gI_bd h
              refine g_callVq1 (as := [_, _]) (rest := []) mt_X12_branchAt mi_X12_branchAt se_X12_branchAt ml_X12_638 dX12_join_68 (q0 := 71) rfl rfl (sh_711 hOK) rfl rfl (ok_branchAt hOK e68) rfl ⟨by decide, by decide⟩ (Nat.le_of_ble_eq_true rfl) ⟨Nat.zero_le _, Nat.zero_le _⟩ ?_
              refine g_istore (q0 := 73) (j := 7) (lv2 := [_, _, _, _, _, _, _, _, _]) rfl dX12_join_71 (by decide) rfl rfl ?_
              refine g_iload (q0 := 75) (j := 6) rfl dX12_join_73 rfl ?_
              refine g_iconst (q0 := 76) rfl dX12_join_75 (k := ?_)
              refine g_icmp_eq (q0 := 79) (tgt := 85) rfl dX12_join_76 (by decide) (fun h76 => ?_) (fun h76 => ?_)
              · replace h := gI_pos h76 h
                refine g_bipush (q0 := 87) rfl dX12_join_85 (k := ?_)
                rw [← Option.some.inj h]
                refine g_ireturn dX12_join_87 rfl ⟨Nat.zero_le _, Nat.zero_le _⟩ ?_
                exact ⟨rfl, rfl, rfl⟩
              · replace h := gI_neg h76 h
                refine g_iload (q0 := 81) (j := 7) rfl dX12_join_79 rfl ?_
                refine g_iconst (q0 := 82) rfl dX12_join_81 (k := ?_)
                refine g_icmp_ne (q0 := 85) (tgt := 88) rfl dX12_join_82 (by decide) (fun h82 => ?_) (fun h82 => ?_)
                · replace h := gI_neg h82 h
                  refine g_iload (q0 := 90) (j := 6) rfl dX12_join_88 rfl ?_
                  refine g_iload (q0 := 92) (j := 7) rfl dX12_join_90 rfl ?_
                  refine g_icmp_eq (q0 := 95) (tgt := 117) rfl dX12_join_92 (by decide) (fun h92 => ?_) (fun h92 => ?_)
                  · replace h := gI_pos h92 h
                    refine g_bipush (q0 := 119) rfl dX12_join_117 (k := ?_)
                    rw [← Option.some.inj h]
                    refine g_ireturn dX12_join_119 rfl ⟨Nat.zero_le _, Nat.zero_le _⟩ ?_
                    exact ⟨rfl, rfl, rfl⟩
                  · replace h := gI_neg h92 h
                    refine g_aload_n (q0 := 96) (j := 0) rfl dX12_join_95 rfl ?_
                    refine g_iload (q0 := 98) (j := 6) rfl dX12_join_96 rfl ?_
                    refine g_iload (q0 := 100) (j := 7) rfl dX12_join_98 rfl ?_
                    obtain ⟨p100, e100, h⟩ := gI_bd h
                    refine g_callVq1 (as := [_, _]) (rest := []) mt_X12_isAncestor mi_X12_isAncestor se_X12_isAncestor ml_X12_246 dX12_join_100 (q0 := 103) rfl rfl (sh_711 hOK) rfl rfl (ok_isAncestor hOK e100) rfl ⟨by decide, by decide⟩ (Nat.le_of_ble_eq_true rfl) ⟨Nat.zero_le _, Nat.zero_le _⟩ ?_
                    have hOK1 : gOK sh p100.2 := gOK_fr hOK (fr_isAncestor (b := p100) e100) (by first | decide | (intro a ha; simp only [List.mem_cons, List.not_mem_nil, or_false] at ha; omega)) (by decide)
                    refine g_if_ne (q0 := 106) (tgt := 117) rfl dX12_join_103 (by decide) (fun h103 => ?_) (fun h103 => ?_)
                    · replace h := gI_neg h103 h
                      refine g_bipush (q0 := 119) rfl dX12_join_117 (k := ?_)
                      rw [← Option.some.inj h]
                      refine g_ireturn dX12_join_119 rfl ⟨Nat.zero_le _, Nat.zero_le _⟩ ?_
                      exact ⟨rfl, rfl, rfl⟩
                    · replace h := gI_pos h103 h
                      refine g_aload_n (q0 := 107) (j := 0) rfl dX12_join_106 rfl ?_
                      refine g_iload (q0 := 109) (j := 7) rfl dX12_join_107 rfl ?_
                      refine g_iload (q0 := 111) (j := 6) rfl dX12_join_109 rfl ?_
                      obtain ⟨p111, e111, h⟩ := gI_bd h
                      refine g_callVq1 (as := [_, _]) (rest := []) mt_X12_isAncestor mi_X12_isAncestor se_X12_isAncestor ml_X12_246 dX12_join_111 (q0 := 114) rfl rfl (sh_711 hOK1) rfl rfl (ok_isAncestor hOK1 e111) rfl ⟨by decide, by decide⟩ (Nat.le_of_ble_eq_true rfl) ⟨Nat.zero_le _, Nat.zero_le _⟩ ?_
                      have hOK2 : gOK sh p111.2 := gOK_fr hOK1 (fr_isAncestor (b := p111) e111) (by first | decide | (intro a ha; simp only [List.mem_cons, List.not_mem_nil, or_false] at ha; omega)) (by decide)
                      refine g_if_eq (q0 := 117) (tgt := 120) rfl dX12_join_114 (by decide) (fun h114 => ?_) (fun h114 => ?_)
                      · replace h := gI_pos h114 h
                        refine g_aload_n (q0 := 121) (j := 0) rfl dX12_join_120 rfl ?_
                        refine g_iload (q0 := 123) (j := 6) rfl dX12_join_121 rfl ?_
                        refine g_iload (q0 := 125) (j := 7) rfl dX12_join_123 rfl ?_
                        obtain ⟨p125, e125, h⟩ := gI_bd h
                        refine g_callVq1 (as := [_, _]) (rest := []) mt_X12_putsTogether mi_X12_putsTogether se_X12_putsTogether ml_X12_641 dX12_join_125 (q0 := 128) rfl rfl (sh_711 hOK2) rfl rfl (ok_putsTogether hOK2 e125) rfl ⟨by decide, by decide⟩ (Nat.le_of_ble_eq_true rfl) ⟨Nat.zero_le _, Nat.zero_le _⟩ ?_
                        have hOK3 : gOK sh p125.2 := gOK_fr hOK2 (fr_putsTogether (b := p125) e125) (by first | decide | (intro a ha; simp only [List.mem_cons, List.not_mem_nil, or_false] at ha; omega)) (by decide)
                        refine g_if_ne (q0 := 131) (tgt := 134) rfl dX12_join_128 (by decide) (fun h128 => ?_) (fun h128 => ?_)
                        · replace h := gI_neg h128 h
                          refine g_aload_n (q0 := 135) (j := 0) rfl dX12_join_134 rfl ?_
                          refine g_getp (q0 := 138) (b := 718) rfl ff_X12_28 dX12_join_135 rfl hOK3 (by decide) (sh_711 hOK3) rfl (by decide) ?_
                          refine g_bipush (q0 := 140) rfl dX12_join_138 (k := ?_)
                          refine g_iald (q0 := 141) rfl dX12_join_140 (sh_718 hOK3) (by decide) (by decide) ?_
                          refine g_bipush (q0 := 143) rfl dX12_join_141 (k := ?_)
                          refine g_icmp_le (q0 := 146) (tgt := 149) rfl dX12_join_143 (by decide) (fun h143 => ?_) (fun h143 => ?_)
                          · replace h := gI_neg (Int.not_lt.mpr h143) h
                            refine g_aload_n (q0 := 150) (j := 0) rfl dX12_join_149 rfl ?_
                            refine g_iconst (q0 := 151) rfl dX12_join_150 (k := ?_)
                            refine g_put (q0 := 154) (t := 0) (fi := 12) rfl rfl ff_X12_186 dX12_join_151 rfl (sh_711 hOK3) rfl (fun _ => ⟨rfl, rfl⟩) ?_
                            have hOK4 : gOK sh (gU p125.2 711 12 2) := gOK_o hOK3 (sh_711 hOK3) (f := 12) rfl rfl
                            refine g_aload_n (q0 := 155) (j := 0) rfl dX12_join_154 rfl ?_
                            refine g_getp (q0 := 158) (b := 721) rfl ff_X12_37 dX12_join_155 rfl hOK4 (by decide) (sh_711 hOK4) rfl (by decide) ?_
                            refine g_iconst (q0 := 159) rfl dX12_join_158 (k := ?_)
                            refine g_iload (q0 := 161) (j := 6) rfl dX12_join_159 rfl ?_
                            refine g_iast (q0 := 162) rfl dX12_join_161 (sh_721 hOK4) (by decide) (by decide) ?_
                            have hOK5 : gOK sh (gU (gU p125.2 711 12 2) 721 0 r60) := gOK_i hOK4 (sh_721 hOK4)
                            refine g_aload_n (q0 := 163) (j := 0) rfl dX12_join_162 rfl ?_
                            refine g_getp (q0 := 166) (b := 721) rfl ff_X12_37 dX12_join_163 rfl hOK5 (by decide) (sh_711 hOK5) rfl (by decide) ?_
                            refine g_iconst (q0 := 167) rfl dX12_join_166 (k := ?_)
                            refine g_iload (q0 := 169) (j := 7) rfl dX12_join_167 rfl ?_
                            refine g_iast (q0 := 170) rfl dX12_join_169 (sh_721 hOK5) (by decide) (by decide) ?_
                            have hOK6 : gOK sh (gU (gU (gU p125.2 711 12 2) 721 0 r60) 721 1 r68) := gOK_i hOK5 (sh_721 hOK5)
                            refine g_aload_n (q0 := 171) (j := 0) rfl dX12_join_170 rfl ?_
                            refine g_iconst (q0 := 172) rfl dX12_join_171 (k := ?_)
                            refine g_put (q0 := 175) (t := 0) (fi := 13) rfl rfl ff_X12_189 dX12_join_172 rfl (sh_711 hOK6) rfl (fun _ => ⟨rfl, rfl⟩) ?_
                            have hOK7 : gOK sh (gU (gU (gU (gU p125.2 711 12 2) 721 0 r60) 721 1 r68) 711 13 0) := gOK_o hOK6 (sh_711 hOK6) (f := 13) rfl rfl
                            refine g_aload_n (q0 := 176) (j := 0) rfl dX12_join_175 rfl ?_
                            refine g_bipush (q0 := 178) rfl dX12_join_176 (k := ?_)
                            refine g_iload (q0 := 180) (j := 4) rfl dX12_join_178 rfl ?_
                            refine g_iload (q0 := 182) (j := 5) rfl dX12_join_180 rfl ?_
                            obtain ⟨p182, e182, h⟩ := gI_bd h
                            refine g_callVq1 (as := [_, _, _]) (rest := []) mt_X12_comes mi_X12_comes se_X12_comes ml_X12_350 dX12_join_182 (q0 := 185) rfl rfl (sh_711 hOK7) rfl rfl (ok_comes hOK7 e182) rfl ⟨by decide, by decide⟩ (Nat.le_of_ble_eq_true rfl) ⟨Nat.zero_le _, Nat.zero_le _⟩ ?_
                            have hOK8 : gOK sh p182.2 := gOK_fr hOK7 (fr_comes (b := p182) e182) (by first | decide | (intro a ha; simp only [List.mem_cons, List.not_mem_nil, or_false] at ha; omega)) (by decide)
                            refine g_istore (q0 := 187) (j := 8) (lv2 := [_, _, _, _, _, _, _, _, _]) rfl dX12_join_185 (by decide) rfl rfl ?_
                            refine g_iload (q0 := 189) (j := 8) rfl dX12_join_187 rfl ?_
                            refine g_if_lt (q0 := 192) (tgt := 201) rfl dX12_join_189 (by decide) (fun h189 => ?_) (fun h189 => ?_)
                            · replace h := gI_pos h189 h
                              refine g_iload (q0 := 203) (j := 8) rfl dX12_join_201 rfl ?_
                              rw [← Option.some.inj h]
                              refine g_ireturn dX12_join_203 rfl ⟨Nat.zero_le _, Nat.zero_le _⟩ ?_
                              exact ⟨rfl, rfl, rfl⟩
                            · replace h := gI_neg (Int.not_lt.mpr h189) h
                              refine g_aload_n (q0 := 193) (j := 0) rfl dX12_join_192 rfl ?_
                              refine g_iload_n (q0 := 194) (j := 1) rfl dX12_join_193 rfl ?_
                              refine g_iload_n (q0 := 195) (j := 2) rfl dX12_join_194 rfl ?_
                              refine g_iload (q0 := 197) (j := 8) rfl dX12_join_195 rfl ?_
                              refine g_iconst (q0 := 198) rfl dX12_join_197 (k := ?_)
                              obtain ⟨m198, e198, h⟩ := gI_bd h
                              refine g_callVq0 (as := [_, _, _, _]) (rest := []) mt_X12_laysRef mi_X12_laysRef se_X12_laysRef ml_X12_359 dX12_join_198 (q0 := 201) rfl rfl (sh_711 hOK8) rfl rfl (ok_laysRef hOK8 e198) rfl ⟨by decide, by decide⟩ (Nat.le_of_ble_eq_true rfl) ⟨Nat.zero_le _, Nat.zero_le _⟩ ?_
                              have hOK9 : gOK sh m198 := gOK_fr hOK8 (fr_laysRef (b := m198) e198) (by first | decide | (intro a ha; simp only [List.mem_cons, List.not_mem_nil, or_false] at ha; omega)) (by decide)
                              refine g_iload (q0 := 203) (j := 8) rfl dX12_join_201 rfl ?_
                              rw [← Option.some.inj h]
                              refine g_ireturn dX12_join_203 rfl ⟨Nat.zero_le _, Nat.zero_le _⟩ ?_
                              exact ⟨rfl, rfl, rfl⟩
                          · replace h := gI_pos h143 h
                            refine g_bipush (q0 := 148) rfl dX12_join_146 (k := ?_)
                            rw [← Option.some.inj h]
                            refine g_ireturn dX12_join_148 rfl ⟨Nat.zero_le _, Nat.zero_le _⟩ ?_
                            exact ⟨rfl, rfl, rfl⟩
                        · replace h := gI_pos h128 h
                          refine g_bipush (q0 := 133) rfl dX12_join_131 (k := ?_)
                          rw [← Option.some.inj h]
                          refine g_ireturn dX12_join_133 rfl ⟨Nat.zero_le _, Nat.zero_le _⟩ ?_
                          exact ⟨rfl, rfl, rfl⟩
                      · replace h := gI_neg h114 h
                        refine g_bipush (q0 := 119) rfl dX12_join_117 (k := ?_)
                        rw [← Option.some.inj h]
                        refine g_ireturn dX12_join_119 rfl ⟨Nat.zero_le _, Nat.zero_le _⟩ ?_
                        exact ⟨rfl, rfl, rfl⟩
                · replace h := gI_pos h82 h
                  refine g_bipush (q0 := 87) rfl dX12_join_85 (k := ?_)
                  rw [← Option.some.inj h]
                  refine g_ireturn dX12_join_87 rfl ⟨Nat.zero_le _, Nat.zero_le _⟩ ?_
                  exact ⟨rfl, rfl, rfl⟩
            · replace h := gI_pos h52 h
              refine g_iconst (q0 := 56) rfl dX12_join_55 (k := ?_)
              rw [← Option.some.inj h]
              refine g_ireturn dX12_join_56 rfl ⟨Nat.zero_le _, Nat.zero_le _⟩ ?_
              exact ⟨rfl, rfl, rfl⟩
-- ==== before
theorem dX12_before_0 : decode cX12_before 0 = .ok (.aload_n 0, 1) := by decide +kernel
theorem dX12_before_1 : decode cX12_before 1 = .ok (.getfield 7, 3) := by decide +kernel
theorem dX12_before_4 : decode cX12_before 4 = .ok (.iload_n 1, 1) := by decide +kernel
theorem dX12_before_5 : decode cX12_before 5 = .ok (.iaload, 1) := by decide +kernel
theorem dX12_before_6 : decode cX12_before 6 = .ok (.ifCond .ne 7, 3) := by decide +kernel
theorem dX12_before_9 : decode cX12_before 9 = .ok (.iconst (-1), 1) := by decide +kernel
theorem dX12_before_10 : decode cX12_before 10 = .ok (.goto 9, 3) := by decide +kernel
theorem dX12_before_13 : decode cX12_before 13 = .ok (.aload_n 0, 1) := by decide +kernel
theorem dX12_before_14 : decode cX12_before 14 = .ok (.iload_n 1, 1) := by decide +kernel
theorem dX12_before_15 : decode cX12_before 15 = .ok (.iconst 0, 1) := by decide +kernel
theorem dX12_before_16 : decode cX12_before 16 = .ok (.invokevirtual 192, 3) := by decide +kernel
theorem dX12_before_19 : decode cX12_before 19 = .ok (.ireturn, 1) := by decide +kernel
noncomputable def F_before (M : gM) (a1 : Int) : Option (Int) := (if 0 ≤ a1 ∧ a1 < 120 then
    (if (M 712 a1) = 0 then
      some (-1)
    else
      (Option.bind (F_parentAt M a1 0) (fun r16 =>
        some r16)))
  else none)
theorem eq_before (M : gM) (a1 : Int) : F_before M a1 = (if 0 ≤ a1 ∧ a1 < 120 then
    (if (M 712 a1) = 0 then
      some (-1)
    else
      (Option.bind (F_parentAt M a1 0) (fun r16 =>
        some r16)))
  else none) := rfl
theorem ok_before {sh : gS} {M : gM} {a1 : Int} {b : Int} (hOK : gOK sh M) (h : F_before M a1 = some b) : gC (gr 1 22) yX12_before cX12_before 2 (some (.int)) [(4, 711), (0, a1)] sh M (gPq sh (some (0, b)) M) := by
  rw [eq_before] at h
  refine gC_ofA (lv := [_, _]) (by decide +kernel) (Nat.le_of_ble_eq_true rfl) rfl (fun hMw hav => ?_)
  refine g_aload_n (q0 := 1) (j := 0) rfl dX12_before_0 rfl ?_
  refine g_getp (q0 := 4) (b := 712) rfl ff_X12_7 dX12_before_1 rfl hOK (by decide) (sh_711 hOK) rfl (by decide) ?_
  refine g_iload_n (q0 := 5) (j := 1) rfl dX12_before_4 rfl ?_
  obtain ⟨g1, h⟩ := gI_gd h
  refine g_iald (q0 := 6) rfl dX12_before_5 (sh_712 hOK) g1.1 g1.2 ?_
  refine g_if_ne (q0 := 9) (tgt := 13) rfl dX12_before_6 (by decide) (fun h6 => ?_) (fun h6 => ?_)
  · replace h := gI_neg h6 h
    refine g_aload_n (q0 := 14) (j := 0) rfl dX12_before_13 rfl ?_
    refine g_iload_n (q0 := 15) (j := 1) rfl dX12_before_14 rfl ?_
    refine g_iconst (q0 := 16) rfl dX12_before_15 (k := ?_)
    obtain ⟨r16, e16, h⟩ := gI_bd h
    refine g_callVq1 (as := [_, _]) (rest := []) mt_X12_parentAt mi_X12_parentAt se_X12_parentAt ml_X12_192 dX12_before_16 (q0 := 19) rfl rfl (sh_711 hOK) rfl rfl (ok_parentAt hOK e16) rfl ⟨by decide, by decide⟩ (Nat.le_of_ble_eq_true rfl) ⟨Nat.zero_le _, Nat.zero_le _⟩ ?_
    rw [← Option.some.inj h]
    refine g_ireturn dX12_before_19 rfl ⟨Nat.zero_le _, Nat.zero_le _⟩ ?_
    exact ⟨rfl, rfl, rfl⟩
  · replace h := gI_pos h6 h
    refine g_iconst (q0 := 10) rfl dX12_before_9 (k := ?_)
    refine g_goto (tgt := 19) dX12_before_10 (by decide) ?_
    rw [← Option.some.inj h]
    refine g_ireturn dX12_before_19 rfl ⟨Nat.zero_le _, Nat.zero_le _⟩ ?_
    exact ⟨rfl, rfl, rfl⟩
-- ==== notes
theorem dX12_notes_0 : decode cX12_notes 0 = .ok (.aload_n 0, 1) := by decide +kernel
theorem dX12_notes_1 : decode cX12_notes 1 = .ok (.getfield 99, 3) := by decide +kernel
theorem dX12_notes_4 : decode cX12_notes 4 = .ok (.aload_n 0, 1) := by decide +kernel
theorem dX12_notes_5 : decode cX12_notes 5 = .ok (.getfield 644, 3) := by decide +kernel
theorem dX12_notes_8 : decode cX12_notes 8 = .ok (.iload_n 1, 1) := by decide +kernel
theorem dX12_notes_9 : decode cX12_notes 9 = .ok (.iastore, 1) := by decide +kernel
theorem dX12_notes_10 : decode cX12_notes 10 = .ok (.aload_n 0, 1) := by decide +kernel
theorem dX12_notes_11 : decode cX12_notes 11 = .ok (.getfield 102, 3) := by decide +kernel
theorem dX12_notes_14 : decode cX12_notes 14 = .ok (.aload_n 0, 1) := by decide +kernel
theorem dX12_notes_15 : decode cX12_notes 15 = .ok (.getfield 644, 3) := by decide +kernel
theorem dX12_notes_18 : decode cX12_notes 18 = .ok (.iload_n 2, 1) := by decide +kernel
theorem dX12_notes_19 : decode cX12_notes 19 = .ok (.iastore, 1) := by decide +kernel
theorem dX12_notes_20 : decode cX12_notes 20 = .ok (.aload_n 0, 1) := by decide +kernel
theorem dX12_notes_21 : decode cX12_notes 21 = .ok (.getfield 105, 3) := by decide +kernel
theorem dX12_notes_24 : decode cX12_notes 24 = .ok (.aload_n 0, 1) := by decide +kernel
theorem dX12_notes_25 : decode cX12_notes 25 = .ok (.getfield 644, 3) := by decide +kernel
theorem dX12_notes_28 : decode cX12_notes 28 = .ok (.iload_n 3, 1) := by decide +kernel
theorem dX12_notes_29 : decode cX12_notes 29 = .ok (.iastore, 1) := by decide +kernel
theorem dX12_notes_30 : decode cX12_notes 30 = .ok (.aload_n 0, 1) := by decide +kernel
theorem dX12_notes_31 : decode cX12_notes 31 = .ok (.aload_n 0, 1) := by decide +kernel
theorem dX12_notes_32 : decode cX12_notes 32 = .ok (.getfield 644, 3) := by decide +kernel
theorem dX12_notes_35 : decode cX12_notes 35 = .ok (.iconst 1, 1) := by decide +kernel
theorem dX12_notes_36 : decode cX12_notes 36 = .ok (.iadd, 1) := by decide +kernel
theorem dX12_notes_37 : decode cX12_notes 37 = .ok (.putfield 644, 3) := by decide +kernel
theorem dX12_notes_40 : decode cX12_notes 40 = .ok (.return_, 1) := by decide +kernel
noncomputable def F_notes (M : gM) (a1 a2 a3 : Int) : Option (gM) := (if 0 ≤ (M 711 49) ∧ (M 711 49) < 32 then
    (if 0 ≤ ((gU M 741 (M 711 49) a1) 711 49) ∧ ((gU M 741 (M 711 49) a1) 711 49) < 32 then
      (if 0 ≤ ((gU (gU M 741 (M 711 49) a1) 742 ((gU M 741 (M 711 49) a1) 711 49) a2) 711 49) ∧ ((gU (gU M 741 (M 711 49) a1) 742 ((gU M 741 (M 711 49) a1) 711 49) a2) 711 49) < 32 then
        some (gU (gU (gU (gU M 741 (M 711 49) a1) 742 ((gU M 741 (M 711 49) a1) 711 49) a2) 743 ((gU (gU M 741 (M 711 49) a1) 742 ((gU M 741 (M 711 49) a1) 711 49) a2) 711 49) a3) 711 49 (gw32 (((gU (gU (gU M 741 (M 711 49) a1) 742 ((gU M 741 (M 711 49) a1) 711 49) a2) 743 ((gU (gU M 741 (M 711 49) a1) 742 ((gU M 741 (M 711 49) a1) 711 49) a2) 711 49) a3) 711 49) + (1 : Int))))
      else none)
    else none)
  else none)
theorem eq_notes (M : gM) (a1 a2 a3 : Int) : F_notes M a1 a2 a3 = (if 0 ≤ (M 711 49) ∧ (M 711 49) < 32 then
    (if 0 ≤ ((gU M 741 (M 711 49) a1) 711 49) ∧ ((gU M 741 (M 711 49) a1) 711 49) < 32 then
      (if 0 ≤ ((gU (gU M 741 (M 711 49) a1) 742 ((gU M 741 (M 711 49) a1) 711 49) a2) 711 49) ∧ ((gU (gU M 741 (M 711 49) a1) 742 ((gU M 741 (M 711 49) a1) 711 49) a2) 711 49) < 32 then
        some (gU (gU (gU (gU M 741 (M 711 49) a1) 742 ((gU M 741 (M 711 49) a1) 711 49) a2) 743 ((gU (gU M 741 (M 711 49) a1) 742 ((gU M 741 (M 711 49) a1) 711 49) a2) 711 49) a3) 711 49 (gw32 (((gU (gU (gU M 741 (M 711 49) a1) 742 ((gU M 741 (M 711 49) a1) 711 49) a2) 743 ((gU (gU M 741 (M 711 49) a1) 742 ((gU M 741 (M 711 49) a1) 711 49) a2) 711 49) a3) 711 49) + (1 : Int))))
      else none)
    else none)
  else none) := rfl
theorem fr_notes {M : gM} {a1 a2 a3 : Int} {b : gM} (h : F_notes M a1 a2 a3 = some b) : gFr [741, 742, 743] [49] M b := by
  rw [eq_notes] at h
  obtain ⟨g1, h⟩ := gI_gd h
  obtain ⟨g3, h⟩ := gI_gd h
  obtain ⟨g5, h⟩ := gI_gd h
  rw [← Option.some.inj h]
  exact (gFr_f (gFr_a (gFr_a (gFr_a (gFr_r [741, 742, 743] [49] _) (.head _) (by decide)) (.tail _ (.head _)) (by decide)) (.tail _ (.tail _ (.head _))) (by decide)) (.head _))
theorem ok_notes {sh : gS} {M : gM} {a1 a2 a3 : Int} {b : gM} (hOK : gOK sh M) (h : F_notes M a1 a2 a3 = some b) : gC (gr 0 0) yX12_notes cX12_notes 4 none [(4, 711), (0, a1), (0, a2), (0, a3)] sh M (gPq sh none b) := by
  rw [eq_notes] at h
  refine gC_ofA (lv := [_, _, _, _]) (by decide +kernel) (Nat.le_of_ble_eq_true rfl) rfl (fun hMw hav => ?_)
  refine g_aload_n (q0 := 1) (j := 0) rfl dX12_notes_0 rfl ?_
  refine g_getp (q0 := 4) (b := 741) rfl ff_X12_99 dX12_notes_1 rfl hOK (by decide) (sh_711 hOK) rfl (by decide) ?_
  refine g_aload_n (q0 := 5) (j := 0) rfl dX12_notes_4 rfl ?_
  refine g_getf (q0 := 8) (t := 0) (fi := 49) rfl rfl ff_X12_644 dX12_notes_5 rfl (sh_711 hOK) ?_
  refine g_iload_n (q0 := 9) (j := 1) rfl dX12_notes_8 rfl ?_
  obtain ⟨g1, h⟩ := gI_gd h
  refine g_iast (q0 := 10) rfl dX12_notes_9 (sh_741 hOK) g1.1 g1.2 ?_
  have hOK2 : gOK sh (gU M 741 (M 711 49) a1) := gOK_i hOK (sh_741 hOK)
  refine g_aload_n (q0 := 11) (j := 0) rfl dX12_notes_10 rfl ?_
  refine g_getp (q0 := 14) (b := 742) rfl ff_X12_102 dX12_notes_11 rfl hOK2 (by decide) (sh_711 hOK2) rfl (by decide) ?_
  refine g_aload_n (q0 := 15) (j := 0) rfl dX12_notes_14 rfl ?_
  refine g_getf (q0 := 18) (t := 0) (fi := 49) rfl rfl ff_X12_644 dX12_notes_15 rfl (sh_711 hOK2) ?_
  refine g_iload_n (q0 := 19) (j := 2) rfl dX12_notes_18 rfl ?_
  obtain ⟨g3, h⟩ := gI_gd h
  refine g_iast (q0 := 20) rfl dX12_notes_19 (sh_742 hOK2) g3.1 g3.2 ?_
  have hOK4 : gOK sh (gU (gU M 741 (M 711 49) a1) 742 ((gU M 741 (M 711 49) a1) 711 49) a2) := gOK_i hOK2 (sh_742 hOK2)
  refine g_aload_n (q0 := 21) (j := 0) rfl dX12_notes_20 rfl ?_
  refine g_getp (q0 := 24) (b := 743) rfl ff_X12_105 dX12_notes_21 rfl hOK4 (by decide) (sh_711 hOK4) rfl (by decide) ?_
  refine g_aload_n (q0 := 25) (j := 0) rfl dX12_notes_24 rfl ?_
  refine g_getf (q0 := 28) (t := 0) (fi := 49) rfl rfl ff_X12_644 dX12_notes_25 rfl (sh_711 hOK4) ?_
  refine g_iload_n (q0 := 29) (j := 3) rfl dX12_notes_28 rfl ?_
  obtain ⟨g5, h⟩ := gI_gd h
  refine g_iast (q0 := 30) rfl dX12_notes_29 (sh_743 hOK4) g5.1 g5.2 ?_
  have hOK6 : gOK sh (gU (gU (gU M 741 (M 711 49) a1) 742 ((gU M 741 (M 711 49) a1) 711 49) a2) 743 ((gU (gU M 741 (M 711 49) a1) 742 ((gU M 741 (M 711 49) a1) 711 49) a2) 711 49) a3) := gOK_i hOK4 (sh_743 hOK4)
  refine g_aload_n (q0 := 31) (j := 0) rfl dX12_notes_30 rfl ?_
  refine g_aload_n (q0 := 32) (j := 0) rfl dX12_notes_31 rfl ?_
  refine g_getf (q0 := 35) (t := 0) (fi := 49) rfl rfl ff_X12_644 dX12_notes_32 rfl (sh_711 hOK6) ?_
  refine g_iconst (q0 := 36) rfl dX12_notes_35 (k := ?_)
  refine g_iaddw (q0 := 37) rfl dX12_notes_36 ?_
  refine g_put (q0 := 40) (t := 0) (fi := 49) rfl rfl ff_X12_644 dX12_notes_37 rfl (sh_711 hOK6) rfl (fun _ => ⟨rfl, rfl⟩) ?_
  have hOK7 : gOK sh (gU (gU (gU (gU M 741 (M 711 49) a1) 742 ((gU M 741 (M 711 49) a1) 711 49) a2) 743 ((gU (gU M 741 (M 711 49) a1) 742 ((gU M 741 (M 711 49) a1) 711 49) a2) 711 49) a3) 711 49 (gw32 (((gU (gU (gU M 741 (M 711 49) a1) 742 ((gU M 741 (M 711 49) a1) 711 49) a2) 743 ((gU (gU M 741 (M 711 49) a1) 742 ((gU M 741 (M 711 49) a1) 711 49) a2) 711 49) a3) 711 49) + (1 : Int)))) := gOK_o hOK6 (sh_711 hOK6) (f := 49) rfl rfl
  rw [← Option.some.inj h]
  refine g_return dX12_notes_40 rfl ⟨Nat.zero_le _, Nat.zero_le _⟩ ?_
  exact ⟨rfl, rfl, rfl⟩
-- ==== laysChange
theorem dX12_laysChange_0 : decode cX12_laysChange 0 = .ok (.aload_n 0, 1) := by decide +kernel
theorem dX12_laysChange_1 : decode cX12_laysChange 1 = .ok (.iload_n 1, 1) := by decide +kernel
theorem dX12_laysChange_2 : decode cX12_laysChange 2 = .ok (.invokevirtual 647, 3) := by decide +kernel
theorem dX12_laysChange_5 : decode cX12_laysChange 5 = .ok (.istore_n 2, 1) := by decide +kernel
theorem dX12_laysChange_6 : decode cX12_laysChange 6 = .ok (.aload_n 0, 1) := by decide +kernel
theorem dX12_laysChange_7 : decode cX12_laysChange 7 = .ok (.iconst 0, 1) := by decide +kernel
theorem dX12_laysChange_8 : decode cX12_laysChange 8 = .ok (.putfield 644, 3) := by decide +kernel
theorem dX12_laysChange_11 : decode cX12_laysChange 11 = .ok (.iconst 0, 1) := by decide +kernel
theorem dX12_laysChange_12 : decode cX12_laysChange 12 = .ok (.istore_n 3, 1) := by decide +kernel
theorem dX12_laysChange_13 : decode cX12_laysChange 13 = .ok (.iload_n 3, 1) := by decide +kernel
theorem dX12_laysChange_14 : decode cX12_laysChange 14 = .ok (.aload_n 0, 1) := by decide +kernel
theorem dX12_laysChange_15 : decode cX12_laysChange 15 = .ok (.getfield 28, 3) := by decide +kernel
theorem dX12_laysChange_18 : decode cX12_laysChange 18 = .ok (.iload_n 1, 1) := by decide +kernel
theorem dX12_laysChange_19 : decode cX12_laysChange 19 = .ok (.iaload, 1) := by decide +kernel
theorem dX12_laysChange_20 : decode cX12_laysChange 20 = .ok (.if_icmp .ge 60, 3) := by decide +kernel
theorem dX12_laysChange_23 : decode cX12_laysChange 23 = .ok (.iload_n 2, 1) := by decide +kernel
theorem dX12_laysChange_24 : decode cX12_laysChange 24 = .ok (.iconst (-1), 1) := by decide +kernel
theorem dX12_laysChange_25 : decode cX12_laysChange 25 = .ok (.if_icmp .ne 7, 3) := by decide +kernel
theorem dX12_laysChange_28 : decode cX12_laysChange 28 = .ok (.iconst 0, 1) := by decide +kernel
theorem dX12_laysChange_29 : decode cX12_laysChange 29 = .ok (.goto 14, 3) := by decide +kernel
theorem dX12_laysChange_32 : decode cX12_laysChange 32 = .ok (.aload_n 0, 1) := by decide +kernel
theorem dX12_laysChange_33 : decode cX12_laysChange 33 = .ok (.iload_n 2, 1) := by decide +kernel
theorem dX12_laysChange_34 : decode cX12_laysChange 34 = .ok (.aload_n 0, 1) := by decide +kernel
theorem dX12_laysChange_35 : decode cX12_laysChange 35 = .ok (.iload_n 1, 1) := by decide +kernel
theorem dX12_laysChange_36 : decode cX12_laysChange 36 = .ok (.iload_n 3, 1) := by decide +kernel
theorem dX12_laysChange_37 : decode cX12_laysChange 37 = .ok (.invokevirtual 162, 3) := by decide +kernel
theorem dX12_laysChange_40 : decode cX12_laysChange 40 = .ok (.invokevirtual 632, 3) := by decide +kernel
theorem dX12_laysChange_43 : decode cX12_laysChange 43 = .ok (.istore 4, 2) := by decide +kernel
theorem dX12_laysChange_45 : decode cX12_laysChange 45 = .ok (.iload 4, 2) := by decide +kernel
theorem dX12_laysChange_47 : decode cX12_laysChange 47 = .ok (.aload_n 0, 1) := by decide +kernel
theorem dX12_laysChange_48 : decode cX12_laysChange 48 = .ok (.iload_n 1, 1) := by decide +kernel
theorem dX12_laysChange_49 : decode cX12_laysChange 49 = .ok (.iload_n 3, 1) := by decide +kernel
theorem dX12_laysChange_50 : decode cX12_laysChange 50 = .ok (.invokevirtual 169, 3) := by decide +kernel
theorem dX12_laysChange_53 : decode cX12_laysChange 53 = .ok (.if_icmp .eq 21, 3) := by decide +kernel
theorem dX12_laysChange_56 : decode cX12_laysChange 56 = .ok (.aload_n 0, 1) := by decide +kernel
theorem dX12_laysChange_57 : decode cX12_laysChange 57 = .ok (.aload_n 0, 1) := by decide +kernel
theorem dX12_laysChange_58 : decode cX12_laysChange 58 = .ok (.iload_n 1, 1) := by decide +kernel
theorem dX12_laysChange_59 : decode cX12_laysChange 59 = .ok (.iload_n 3, 1) := by decide +kernel
theorem dX12_laysChange_60 : decode cX12_laysChange 60 = .ok (.invokevirtual 162, 3) := by decide +kernel
theorem dX12_laysChange_63 : decode cX12_laysChange 63 = .ok (.aload_n 0, 1) := by decide +kernel
theorem dX12_laysChange_64 : decode cX12_laysChange 64 = .ok (.iload_n 1, 1) := by decide +kernel
theorem dX12_laysChange_65 : decode cX12_laysChange 65 = .ok (.iload_n 3, 1) := by decide +kernel
theorem dX12_laysChange_66 : decode cX12_laysChange 66 = .ok (.invokevirtual 169, 3) := by decide +kernel
theorem dX12_laysChange_69 : decode cX12_laysChange 69 = .ok (.iload 4, 2) := by decide +kernel
theorem dX12_laysChange_71 : decode cX12_laysChange 71 = .ok (.invokevirtual 650, 3) := by decide +kernel
theorem dX12_laysChange_74 : decode cX12_laysChange 74 = .ok (.iinc 3 1, 3) := by decide +kernel
theorem dX12_laysChange_77 : decode cX12_laysChange 77 = .ok (.goto (-64), 3) := by decide +kernel
theorem dX12_laysChange_80 : decode cX12_laysChange 80 = .ok (.iconst 0, 1) := by decide +kernel
theorem dX12_laysChange_81 : decode cX12_laysChange 81 = .ok (.istore_n 3, 1) := by decide +kernel
theorem dX12_laysChange_82 : decode cX12_laysChange 82 = .ok (.iload_n 2, 1) := by decide +kernel
theorem dX12_laysChange_83 : decode cX12_laysChange 83 = .ok (.iconst (-1), 1) := by decide +kernel
theorem dX12_laysChange_84 : decode cX12_laysChange 84 = .ok (.if_icmp .eq 51, 3) := by decide +kernel
theorem dX12_laysChange_87 : decode cX12_laysChange 87 = .ok (.iload_n 3, 1) := by decide +kernel
theorem dX12_laysChange_88 : decode cX12_laysChange 88 = .ok (.aload_n 0, 1) := by decide +kernel
theorem dX12_laysChange_89 : decode cX12_laysChange 89 = .ok (.getfield 28, 3) := by decide +kernel
theorem dX12_laysChange_92 : decode cX12_laysChange 92 = .ok (.iload_n 2, 1) := by decide +kernel
theorem dX12_laysChange_93 : decode cX12_laysChange 93 = .ok (.iaload, 1) := by decide +kernel
theorem dX12_laysChange_94 : decode cX12_laysChange 94 = .ok (.if_icmp .ge 41, 3) := by decide +kernel
theorem dX12_laysChange_97 : decode cX12_laysChange 97 = .ok (.aload_n 0, 1) := by decide +kernel
theorem dX12_laysChange_98 : decode cX12_laysChange 98 = .ok (.iload_n 1, 1) := by decide +kernel
theorem dX12_laysChange_99 : decode cX12_laysChange 99 = .ok (.aload_n 0, 1) := by decide +kernel
theorem dX12_laysChange_100 : decode cX12_laysChange 100 = .ok (.iload_n 2, 1) := by decide +kernel
theorem dX12_laysChange_101 : decode cX12_laysChange 101 = .ok (.iload_n 3, 1) := by decide +kernel
theorem dX12_laysChange_102 : decode cX12_laysChange 102 = .ok (.invokevirtual 162, 3) := by decide +kernel
theorem dX12_laysChange_105 : decode cX12_laysChange 105 = .ok (.invokevirtual 166, 3) := by decide +kernel
theorem dX12_laysChange_108 : decode cX12_laysChange 108 = .ok (.iconst (-1), 1) := by decide +kernel
theorem dX12_laysChange_109 : decode cX12_laysChange 109 = .ok (.if_icmp .ne 20, 3) := by decide +kernel
theorem dX12_laysChange_112 : decode cX12_laysChange 112 = .ok (.aload_n 0, 1) := by decide +kernel
theorem dX12_laysChange_113 : decode cX12_laysChange 113 = .ok (.aload_n 0, 1) := by decide +kernel
theorem dX12_laysChange_114 : decode cX12_laysChange 114 = .ok (.iload_n 2, 1) := by decide +kernel
theorem dX12_laysChange_115 : decode cX12_laysChange 115 = .ok (.iload_n 3, 1) := by decide +kernel
theorem dX12_laysChange_116 : decode cX12_laysChange 116 = .ok (.invokevirtual 162, 3) := by decide +kernel
theorem dX12_laysChange_119 : decode cX12_laysChange 119 = .ok (.iconst 0, 1) := by decide +kernel
theorem dX12_laysChange_120 : decode cX12_laysChange 120 = .ok (.aload_n 0, 1) := by decide +kernel
theorem dX12_laysChange_121 : decode cX12_laysChange 121 = .ok (.iload_n 2, 1) := by decide +kernel
theorem dX12_laysChange_122 : decode cX12_laysChange 122 = .ok (.iload_n 3, 1) := by decide +kernel
theorem dX12_laysChange_123 : decode cX12_laysChange 123 = .ok (.invokevirtual 169, 3) := by decide +kernel
theorem dX12_laysChange_126 : decode cX12_laysChange 126 = .ok (.invokevirtual 650, 3) := by decide +kernel
theorem dX12_laysChange_129 : decode cX12_laysChange 129 = .ok (.iinc 3 1, 3) := by decide +kernel
theorem dX12_laysChange_132 : decode cX12_laysChange 132 = .ok (.goto (-50), 3) := by decide +kernel
theorem dX12_laysChange_135 : decode cX12_laysChange 135 = .ok (.return_, 1) := by decide +kernel
noncomputable def st_laysChange : Nat × List Int × gM → Option ((Nat × List Int × gM) ⊕ (gM))
  | (0, [x1, x2, x3], M) => (if 0 ≤ x1 ∧ x1 < 123 then
      (if x3 < (M 718 x1) then
        (if x2 = -1 then
          some (.inl (1, [x1, x2, x3, 0], M))
        else
          (Option.bind (F_pathAt M x1 x3) (fun r37 =>
            (Option.bind (F_contentBy M x2 r37) (fun r40 =>
              some (.inl (1, [x1, x2, x3, r40], M)))))))
      else
        some (.inl (2, [x1, x2, 0], M)))
    else none)
  | (1, [x1, x2, x3, s0], M) => (Option.bind (F_contentAt M x1 x3) (fun r50 =>
      (if s0 = r50 then
        some (.inl (0, [x1, x2, (gw32 (x3 + 1))], M))
      else
        (Option.bind (F_pathAt M x1 x3) (fun r60 =>
          (Option.bind (F_contentAt M x1 x3) (fun r66 =>
            (Option.bind (F_notes M r60 r66 s0) (fun m71 =>
              some (.inl (0, [x1, x2, (gw32 (x3 + 1))], m71)))))))))))
  | (2, [x1, x2, x3], M) => (if x2 = -1 then
      some (.inr M)
    else
      (if 0 ≤ x2 ∧ x2 < 123 then
        (if x3 < (M 718 x2) then
          (Option.bind (F_pathAt M x2 x3) (fun r102 =>
            (Option.bind (F_fileAt M x1 r102) (fun r105 =>
              (if r105 = -1 then
                (Option.bind (F_pathAt M x2 x3) (fun r116 =>
                  (Option.bind (F_contentAt M x2 x3) (fun r123 =>
                    (Option.bind (F_notes M r116 0 r123) (fun m126 =>
                      some (.inl (2, [x1, x2, (gw32 (x3 + 1))], m126))))))))
              else
                some (.inl (2, [x1, x2, (gw32 (x3 + 1))], M)))))))
        else
          some (.inr M))
      else none))
  | _ => none
theorem sk_laysChange_13 (k : Nat × List Int × gM → Option (gM)) (M : gM) (x1 x2 x3 : Int) : gWk k (st_laysChange (0, [x1, x2, x3], M)) = (if 0 ≤ x1 ∧ x1 < 123 then
    (if x3 < (M 718 x1) then
      (if x2 = -1 then
        k (1, [x1, x2, x3, 0], M)
      else
        (Option.bind (F_pathAt M x1 x3) (fun r37 =>
          (Option.bind (F_contentBy M x2 r37) (fun r40 =>
            k (1, [x1, x2, x3, r40], M))))))
    else
      k (2, [x1, x2, 0], M))
  else none) := by
  simp only [st_laysChange, gWk_ite, gWk_bind, gWk_inl, gWk_inr, gWk_none]
theorem sk_laysChange_43 (k : Nat × List Int × gM → Option (gM)) (M : gM) (x1 x2 x3 s0 : Int) : gWk k (st_laysChange (1, [x1, x2, x3, s0], M)) = (Option.bind (F_contentAt M x1 x3) (fun r50 =>
    (if s0 = r50 then
      k (0, [x1, x2, (gw32 (x3 + 1))], M)
    else
      (Option.bind (F_pathAt M x1 x3) (fun r60 =>
        (Option.bind (F_contentAt M x1 x3) (fun r66 =>
          (Option.bind (F_notes M r60 r66 s0) (fun m71 =>
            k (0, [x1, x2, (gw32 (x3 + 1))], m71)))))))))) := by
  simp only [st_laysChange, gWk_ite, gWk_bind, gWk_inl, gWk_inr, gWk_none]
theorem sk_laysChange_82 (k : Nat × List Int × gM → Option (gM)) (M : gM) (x1 x2 x3 : Int) : gWk k (st_laysChange (2, [x1, x2, x3], M)) = (if x2 = -1 then
    some M
  else
    (if 0 ≤ x2 ∧ x2 < 123 then
      (if x3 < (M 718 x2) then
        (Option.bind (F_pathAt M x2 x3) (fun r102 =>
          (Option.bind (F_fileAt M x1 r102) (fun r105 =>
            (if r105 = -1 then
              (Option.bind (F_pathAt M x2 x3) (fun r116 =>
                (Option.bind (F_contentAt M x2 x3) (fun r123 =>
                  (Option.bind (F_notes M r116 0 r123) (fun m126 =>
                    k (2, [x1, x2, (gw32 (x3 + 1))], m126)))))))
            else
              k (2, [x1, x2, (gw32 (x3 + 1))], M))))))
      else
        some M)
    else none)) := by
  simp only [st_laysChange, gWk_ite, gWk_bind, gWk_inl, gWk_inr, gWk_none]
noncomputable def F_laysChange_13 (M : gM) (x1 x2 x3 : Int) : Option (gM) := gWh (st_laysChange) (0, [x1, x2, x3], M)
noncomputable def F_laysChange_43 (M : gM) (x1 x2 x3 s0 : Int) : Option (gM) := gWh (st_laysChange) (1, [x1, x2, x3, s0], M)
noncomputable def F_laysChange_82 (M : gM) (x1 x2 x3 : Int) : Option (gM) := gWh (st_laysChange) (2, [x1, x2, x3], M)
theorem eq_laysChange_13 (M : gM) (x1 x2 x3 : Int) : F_laysChange_13 M x1 x2 x3 = (if 0 ≤ x1 ∧ x1 < 123 then
    (if x3 < (M 718 x1) then
      (if x2 = -1 then
        F_laysChange_43 M x1 x2 x3 0
      else
        (Option.bind (F_pathAt M x1 x3) (fun r37 =>
          (Option.bind (F_contentBy M x2 r37) (fun r40 =>
            F_laysChange_43 M x1 x2 x3 r40)))))
    else
      F_laysChange_82 M x1 x2 0)
  else none) := (gWh_eq _).trans (sk_laysChange_13 _ M x1 x2 x3)
theorem eq_laysChange_43 (M : gM) (x1 x2 x3 s0 : Int) : F_laysChange_43 M x1 x2 x3 s0 = (Option.bind (F_contentAt M x1 x3) (fun r50 =>
    (if s0 = r50 then
      F_laysChange_13 M x1 x2 (gw32 (x3 + 1))
    else
      (Option.bind (F_pathAt M x1 x3) (fun r60 =>
        (Option.bind (F_contentAt M x1 x3) (fun r66 =>
          (Option.bind (F_notes M r60 r66 s0) (fun m71 =>
            F_laysChange_13 m71 x1 x2 (gw32 (x3 + 1))))))))))) := (gWh_eq _).trans (sk_laysChange_43 _ M x1 x2 x3 s0)
theorem eq_laysChange_82 (M : gM) (x1 x2 x3 : Int) : F_laysChange_82 M x1 x2 x3 = (if x2 = -1 then
    some M
  else
    (if 0 ≤ x2 ∧ x2 < 123 then
      (if x3 < (M 718 x2) then
        (Option.bind (F_pathAt M x2 x3) (fun r102 =>
          (Option.bind (F_fileAt M x1 r102) (fun r105 =>
            (if r105 = -1 then
              (Option.bind (F_pathAt M x2 x3) (fun r116 =>
                (Option.bind (F_contentAt M x2 x3) (fun r123 =>
                  (Option.bind (F_notes M r116 0 r123) (fun m126 =>
                    F_laysChange_82 m126 x1 x2 (gw32 (x3 + 1))))))))
            else
              F_laysChange_82 M x1 x2 (gw32 (x3 + 1)))))))
      else
        some M)
    else none)) := (gWh_eq _).trans (sk_laysChange_82 _ M x1 x2 x3)
noncomputable def F_laysChange (M : gM) (a1 : Int) : Option (gM) := (Option.bind (F_before M a1) (fun r2 =>
    F_laysChange_13 (gU M 711 49 0) a1 r2 0))
theorem eq_laysChange (M : gM) (a1 : Int) : F_laysChange M a1 = (Option.bind (F_before M a1) (fun r2 =>
    F_laysChange_13 (gU M 711 49 0) a1 r2 0)) := rfl
theorem frp_laysChange : ∀ (s : Nat × List Int × gM) (b : gM), gWh (st_laysChange) s = some b → (∀ (x1 x2 x3 : Int) (M : gM), s = (0, [x1, x2, x3], M) → gFr [741, 742, 743] [49] M b) ∧ (∀ (x1 x2 x3 s0 : Int) (M : gM), s = (1, [x1, x2, x3, s0], M) → gFr [741, 742, 743] [49] M b) ∧ (∀ (x1 x2 x3 : Int) (M : gM), s = (2, [x1, x2, x3], M) → gFr [741, 742, 743] [49] M b) := by
  refine gWh_ind (fun k hk s b h => ⟨?_, ?_, ?_⟩)
  · rintro x1 x2 x3 M rfl
    rw [sk_laysChange_13] at h
    obtain ⟨g1, h⟩ := gI_gd h
    rcases gI_or h with h | h
    · rcases gI_or h with h | h
      · exact gFr_t (gFr_r [741, 742, 743] [49] _) ((hk _ _ h).2.1 _ _ _ _ _ rfl) (fun _ z => z) (fun _ z => z)
      · obtain ⟨r37, e37, h⟩ := gI_bd h
        obtain ⟨r40, e40, h⟩ := gI_bd h
        exact gFr_t (gFr_r [741, 742, 743] [49] _) ((hk _ _ h).2.1 _ _ _ _ _ rfl) (fun _ z => z) (fun _ z => z)
    · exact gFr_t (gFr_r [741, 742, 743] [49] _) ((hk _ _ h).2.2 _ _ _ _ rfl) (fun _ z => z) (fun _ z => z)
  · rintro x1 x2 x3 s0 M rfl
    rw [sk_laysChange_43] at h
    obtain ⟨r50, e50, h⟩ := gI_bd h
    rcases gI_or h with h | h
    · exact gFr_t (gFr_r [741, 742, 743] [49] _) ((hk _ _ h).1 _ _ _ _ rfl) (fun _ z => z) (fun _ z => z)
    · obtain ⟨r60, e60, h⟩ := gI_bd h
      obtain ⟨r66, e66, h⟩ := gI_bd h
      obtain ⟨m71, e71, h⟩ := gI_bd h
      exact gFr_t (gFr_t (gFr_r [741, 742, 743] [49] _) (fr_notes (b := m71) e71) (by first | decide | simp) (by decide)) ((hk _ _ h).1 _ _ _ _ rfl) (fun _ z => z) (fun _ z => z)
  · rintro x1 x2 x3 M rfl
    rw [sk_laysChange_82] at h
    rcases gI_or h with h | h
    · rw [← Option.some.inj h]
      exact (gFr_r [741, 742, 743] [49] _)
    · obtain ⟨g3, h⟩ := gI_gd h
      rcases gI_or h with h | h
      · obtain ⟨r102, e102, h⟩ := gI_bd h
        obtain ⟨r105, e105, h⟩ := gI_bd h
        rcases gI_or h with h | h
        · obtain ⟨r116, e116, h⟩ := gI_bd h
          obtain ⟨r123, e123, h⟩ := gI_bd h
          obtain ⟨m126, e126, h⟩ := gI_bd h
          exact gFr_t (gFr_t (gFr_r [741, 742, 743] [49] _) (fr_notes (b := m126) e126) (by first | decide | simp) (by decide)) ((hk _ _ h).2.2 _ _ _ _ rfl) (fun _ z => z) (fun _ z => z)
        · exact gFr_t (gFr_r [741, 742, 743] [49] _) ((hk _ _ h).2.2 _ _ _ _ rfl) (fun _ z => z) (fun _ z => z)
      · rw [← Option.some.inj h]
        exact (gFr_r [741, 742, 743] [49] _)
theorem fr_laysChange_13 {M : gM} {x1 x2 x3 : Int} {b : gM} (h : F_laysChange_13 M x1 x2 x3 = some b) : gFr [741, 742, 743] [49] M b :=
  (frp_laysChange _ _ h).1 _ _ _ _ rfl
theorem fr_laysChange_43 {M : gM} {x1 x2 x3 s0 : Int} {b : gM} (h : F_laysChange_43 M x1 x2 x3 s0 = some b) : gFr [741, 742, 743] [49] M b :=
  (frp_laysChange _ _ h).2.1 _ _ _ _ _ rfl
theorem fr_laysChange_82 {M : gM} {x1 x2 x3 : Int} {b : gM} (h : F_laysChange_82 M x1 x2 x3 = some b) : gFr [741, 742, 743] [49] M b :=
  (frp_laysChange _ _ h).2.2 _ _ _ _ rfl
theorem fr_laysChange {M : gM} {a1 : Int} {b : gM} (h : F_laysChange M a1 = some b) : gFr [741, 742, 743] [49] M b := by
  rw [eq_laysChange] at h
  obtain ⟨r2, e2, h⟩ := gI_bd h
  exact gFr_t (gFr_f (gFr_r [741, 742, 743] [49] _) (.head _)) (fr_laysChange_13 h) (fun _ z => z) (fun _ z => z)
theorem okp_laysChange {sh : gS} : ∀ (s : Nat × List Int × gM) (b : gM), gWh (st_laysChange) s = some b → (∀ (x1 x2 x3 : Int) (M : gM), s = (0, [x1, x2, x3], M) → gOK sh M → gA (gr 4 88) yX12_laysChange cX12_laysChange 5 none (gPq sh none b) (0, 0) 13 [(4, 711), (0, x1), (0, x2), (0, x3), (9, 0)] [] sh M) ∧ (∀ (x1 x2 x3 s0 : Int) (M : gM), s = (1, [x1, x2, x3, s0], M) → gOK sh M → gA (gr 4 88) yX12_laysChange cX12_laysChange 5 none (gPq sh none b) (0, 0) 43 [(4, 711), (0, x1), (0, x2), (0, x3), (9, 0)] [(0, s0)] sh M) ∧ (∀ (x1 x2 x3 : Int) (M : gM), s = (2, [x1, x2, x3], M) → gOK sh M → gA (gr 4 88) yX12_laysChange cX12_laysChange 5 none (gPq sh none b) (0, 0) 82 [(4, 711), (0, x1), (0, x2), (0, x3), (9, 0)] [] sh M) := by
  refine gWh_ind (fun k hk s b h => ⟨?_, ?_, ?_⟩)
  · rintro x1 x2 x3 M rfl hOK
    rw [sk_laysChange_13] at h
    refine g_iload_n (q0 := 14) (j := 3) rfl dX12_laysChange_13 rfl ?_
    refine g_aload_n (q0 := 15) (j := 0) rfl dX12_laysChange_14 rfl ?_
    refine g_getp (q0 := 18) (b := 718) rfl ff_X12_28 dX12_laysChange_15 rfl hOK (by decide) (sh_711 hOK) rfl (by decide) ?_
    refine g_iload_n (q0 := 19) (j := 1) rfl dX12_laysChange_18 rfl ?_
    obtain ⟨g1, h⟩ := gI_gd h
    refine g_iald (q0 := 20) rfl dX12_laysChange_19 (sh_718 hOK) g1.1 g1.2 ?_
    refine g_icmp_ge (q0 := 23) (tgt := 80) rfl dX12_laysChange_20 (by decide) (fun h20 => ?_) (fun h20 => ?_)
    · replace h := gI_neg (Int.not_lt.mpr h20) h
      refine g_iconst (q0 := 81) rfl dX12_laysChange_80 (k := ?_)
      refine g_istore_n (q0 := 82) (j := 3) (lv2 := [_, _, _, _, _]) rfl dX12_laysChange_81 (by decide) rfl rfl ?_
      exact (hk _ _ h).2.2 _ _ _ _ rfl hOK
    · replace h := gI_pos h20 h
      refine g_iload_n (q0 := 24) (j := 2) rfl dX12_laysChange_23 rfl ?_
      refine g_iconst (q0 := 25) rfl dX12_laysChange_24 (k := ?_)
      refine g_icmp_ne (q0 := 28) (tgt := 32) rfl dX12_laysChange_25 (by decide) (fun h25 => ?_) (fun h25 => ?_)
      · replace h := gI_neg h25 h
        refine g_aload_n (q0 := 33) (j := 0) rfl dX12_laysChange_32 rfl ?_
        refine g_iload_n (q0 := 34) (j := 2) rfl dX12_laysChange_33 rfl ?_
        refine g_aload_n (q0 := 35) (j := 0) rfl dX12_laysChange_34 rfl ?_
        refine g_iload_n (q0 := 36) (j := 1) rfl dX12_laysChange_35 rfl ?_
        refine g_iload_n (q0 := 37) (j := 3) rfl dX12_laysChange_36 rfl ?_
        obtain ⟨r37, e37, h⟩ := gI_bd h
        refine g_callVq1 (as := [_, _]) (rest := [_, _]) mt_X12_pathAt mi_X12_pathAt se_X12_pathAt ml_X12_162 dX12_laysChange_37 (q0 := 40) rfl rfl (sh_711 hOK) rfl rfl (ok_pathAt hOK e37) rfl ⟨by decide, by decide⟩ (Nat.le_of_ble_eq_true rfl) ⟨Nat.zero_le _, Nat.zero_le _⟩ ?_
        obtain ⟨r40, e40, h⟩ := gI_bd h
        refine g_callVq1 (as := [_, _]) (rest := []) mt_X12_contentBy mi_X12_contentBy se_X12_contentBy ml_X12_632 dX12_laysChange_40 (q0 := 43) rfl rfl (sh_711 hOK) rfl rfl (ok_contentBy hOK e40) rfl ⟨by decide, by decide⟩ (Nat.le_of_ble_eq_true rfl) ⟨Nat.zero_le _, Nat.zero_le _⟩ ?_
        exact (hk _ _ h).2.1 _ _ _ _ _ rfl hOK
      · replace h := gI_pos h25 h
        refine g_iconst (q0 := 29) rfl dX12_laysChange_28 (k := ?_)
        refine g_goto (tgt := 43) dX12_laysChange_29 (by decide) ?_
        exact (hk _ _ h).2.1 _ _ _ _ _ rfl hOK
  · rintro x1 x2 x3 s0 M rfl hOK
    rw [sk_laysChange_43] at h
    refine g_istore (q0 := 45) (j := 4) (lv2 := [_, _, _, _, _]) rfl dX12_laysChange_43 (by decide) rfl rfl ?_
    refine g_iload (q0 := 47) (j := 4) rfl dX12_laysChange_45 rfl ?_
    refine g_aload_n (q0 := 48) (j := 0) rfl dX12_laysChange_47 rfl ?_
    refine g_iload_n (q0 := 49) (j := 1) rfl dX12_laysChange_48 rfl ?_
    refine g_iload_n (q0 := 50) (j := 3) rfl dX12_laysChange_49 rfl ?_
    obtain ⟨r50, e50, h⟩ := gI_bd h
    refine g_callVq1 (as := [_, _]) (rest := [_]) mt_X12_contentAt mi_X12_contentAt se_X12_contentAt ml_X12_169 dX12_laysChange_50 (q0 := 53) rfl rfl (sh_711 hOK) rfl rfl (ok_contentAt hOK e50) rfl ⟨by decide, by decide⟩ (Nat.le_of_ble_eq_true rfl) ⟨Nat.zero_le _, Nat.zero_le _⟩ ?_
    refine g_icmp_eq (q0 := 56) (tgt := 74) rfl dX12_laysChange_53 (by decide) (fun h53 => ?_) (fun h53 => ?_)
    · replace h := gI_pos h53 h
      refine g_iincw (q0 := 77) (lv2 := [_, _, _, _, _]) rfl dX12_laysChange_74 rfl (by decide) rfl rfl ?_
      refine g_goto (tgt := 13) dX12_laysChange_77 (by decide) ?_
      refine gA_jk (lv1 := [_, _, _, _, (9, 0)]) ⟨.inl rfl, .inl rfl, .inl rfl, .inl rfl, .inr rfl, trivial⟩ ?_
      exact (hk _ _ h).1 _ _ _ _ rfl hOK
    · replace h := gI_neg h53 h
      refine g_aload_n (q0 := 57) (j := 0) rfl dX12_laysChange_56 rfl ?_
      refine g_aload_n (q0 := 58) (j := 0) rfl dX12_laysChange_57 rfl ?_
      refine g_iload_n (q0 := 59) (j := 1) rfl dX12_laysChange_58 rfl ?_
      refine g_iload_n (q0 := 60) (j := 3) rfl dX12_laysChange_59 rfl ?_
      obtain ⟨r60, e60, h⟩ := gI_bd h
      refine g_callVq1 (as := [_, _]) (rest := [_]) mt_X12_pathAt mi_X12_pathAt se_X12_pathAt ml_X12_162 dX12_laysChange_60 (q0 := 63) rfl rfl (sh_711 hOK) rfl rfl (ok_pathAt hOK e60) rfl ⟨by decide, by decide⟩ (Nat.le_of_ble_eq_true rfl) ⟨Nat.zero_le _, Nat.zero_le _⟩ ?_
      refine g_aload_n (q0 := 64) (j := 0) rfl dX12_laysChange_63 rfl ?_
      refine g_iload_n (q0 := 65) (j := 1) rfl dX12_laysChange_64 rfl ?_
      refine g_iload_n (q0 := 66) (j := 3) rfl dX12_laysChange_65 rfl ?_
      obtain ⟨r66, e66, h⟩ := gI_bd h
      refine g_callVq1 (as := [_, _]) (rest := [_, _]) mt_X12_contentAt mi_X12_contentAt se_X12_contentAt ml_X12_169 dX12_laysChange_66 (q0 := 69) rfl rfl (sh_711 hOK) rfl rfl (ok_contentAt hOK e66) rfl ⟨by decide, by decide⟩ (Nat.le_of_ble_eq_true rfl) ⟨Nat.zero_le _, Nat.zero_le _⟩ ?_
      refine g_iload (q0 := 71) (j := 4) rfl dX12_laysChange_69 rfl ?_
      obtain ⟨m71, e71, h⟩ := gI_bd h
      refine g_callVq0 (as := [_, _, _]) (rest := []) mt_X12_notes mi_X12_notes se_X12_notes ml_X12_650 dX12_laysChange_71 (q0 := 74) rfl rfl (sh_711 hOK) rfl rfl (ok_notes hOK e71) rfl ⟨by decide, by decide⟩ (Nat.le_of_ble_eq_true rfl) ⟨Nat.zero_le _, Nat.zero_le _⟩ ?_
      have hOK2 : gOK sh m71 := gOK_fr hOK (fr_notes (b := m71) e71) (by first | decide | (intro a ha; simp only [List.mem_cons, List.not_mem_nil, or_false] at ha; omega)) (by decide)
      refine g_iincw (q0 := 77) (lv2 := [_, _, _, _, _]) rfl dX12_laysChange_74 rfl (by decide) rfl rfl ?_
      refine g_goto (tgt := 13) dX12_laysChange_77 (by decide) ?_
      refine gA_jk (lv1 := [_, _, _, _, (9, 0)]) ⟨.inl rfl, .inl rfl, .inl rfl, .inl rfl, .inr rfl, trivial⟩ ?_
      exact (hk _ _ h).1 _ _ _ _ rfl hOK2
  · rintro x1 x2 x3 M rfl hOK
    rw [sk_laysChange_82] at h
    refine g_iload_n (q0 := 83) (j := 2) rfl dX12_laysChange_82 rfl ?_
    refine g_iconst (q0 := 84) rfl dX12_laysChange_83 (k := ?_)
    refine g_icmp_eq (q0 := 87) (tgt := 135) rfl dX12_laysChange_84 (by decide) (fun h84 => ?_) (fun h84 => ?_)
    · replace h := gI_pos h84 h
      rw [← Option.some.inj h]
      refine g_return dX12_laysChange_135 rfl ⟨Nat.zero_le _, Nat.zero_le _⟩ ?_
      exact ⟨rfl, rfl, rfl⟩
    · replace h := gI_neg h84 h
      refine g_iload_n (q0 := 88) (j := 3) rfl dX12_laysChange_87 rfl ?_
      refine g_aload_n (q0 := 89) (j := 0) rfl dX12_laysChange_88 rfl ?_
      refine g_getp (q0 := 92) (b := 718) rfl ff_X12_28 dX12_laysChange_89 rfl hOK (by decide) (sh_711 hOK) rfl (by decide) ?_
      refine g_iload_n (q0 := 93) (j := 2) rfl dX12_laysChange_92 rfl ?_
      obtain ⟨g3, h⟩ := gI_gd h
      refine g_iald (q0 := 94) rfl dX12_laysChange_93 (sh_718 hOK) g3.1 g3.2 ?_
      refine g_icmp_ge (q0 := 97) (tgt := 135) rfl dX12_laysChange_94 (by decide) (fun h94 => ?_) (fun h94 => ?_)
      · replace h := gI_neg (Int.not_lt.mpr h94) h
        rw [← Option.some.inj h]
        refine g_return dX12_laysChange_135 rfl ⟨Nat.zero_le _, Nat.zero_le _⟩ ?_
        exact ⟨rfl, rfl, rfl⟩
      · replace h := gI_pos h94 h
        refine g_aload_n (q0 := 98) (j := 0) rfl dX12_laysChange_97 rfl ?_
        refine g_iload_n (q0 := 99) (j := 1) rfl dX12_laysChange_98 rfl ?_
        refine g_aload_n (q0 := 100) (j := 0) rfl dX12_laysChange_99 rfl ?_
        refine g_iload_n (q0 := 101) (j := 2) rfl dX12_laysChange_100 rfl ?_
        refine g_iload_n (q0 := 102) (j := 3) rfl dX12_laysChange_101 rfl ?_
        obtain ⟨r102, e102, h⟩ := gI_bd h
        refine g_callVq1 (as := [_, _]) (rest := [_, _]) mt_X12_pathAt mi_X12_pathAt se_X12_pathAt ml_X12_162 dX12_laysChange_102 (q0 := 105) rfl rfl (sh_711 hOK) rfl rfl (ok_pathAt hOK e102) rfl ⟨by decide, by decide⟩ (Nat.le_of_ble_eq_true rfl) ⟨Nat.zero_le _, Nat.zero_le _⟩ ?_
        obtain ⟨r105, e105, h⟩ := gI_bd h
        refine g_callVq1 (as := [_, _]) (rest := []) mt_X12_fileAt mi_X12_fileAt se_X12_fileAt ml_X12_166 dX12_laysChange_105 (q0 := 108) rfl rfl (sh_711 hOK) rfl rfl (ok_fileAt hOK e105) rfl ⟨by decide, by decide⟩ (Nat.le_of_ble_eq_true rfl) ⟨Nat.zero_le _, Nat.zero_le _⟩ ?_
        refine g_iconst (q0 := 109) rfl dX12_laysChange_108 (k := ?_)
        refine g_icmp_ne (q0 := 112) (tgt := 129) rfl dX12_laysChange_109 (by decide) (fun h109 => ?_) (fun h109 => ?_)
        · replace h := gI_neg h109 h
          refine g_iincw (q0 := 132) (lv2 := [_, _, _, _, _]) rfl dX12_laysChange_129 rfl (by decide) rfl rfl ?_
          refine g_goto (tgt := 82) dX12_laysChange_132 (by decide) ?_
          exact (hk _ _ h).2.2 _ _ _ _ rfl hOK
        · replace h := gI_pos h109 h
          refine g_aload_n (q0 := 113) (j := 0) rfl dX12_laysChange_112 rfl ?_
          refine g_aload_n (q0 := 114) (j := 0) rfl dX12_laysChange_113 rfl ?_
          refine g_iload_n (q0 := 115) (j := 2) rfl dX12_laysChange_114 rfl ?_
          refine g_iload_n (q0 := 116) (j := 3) rfl dX12_laysChange_115 rfl ?_
          obtain ⟨r116, e116, h⟩ := gI_bd h
          refine g_callVq1 (as := [_, _]) (rest := [_]) mt_X12_pathAt mi_X12_pathAt se_X12_pathAt ml_X12_162 dX12_laysChange_116 (q0 := 119) rfl rfl (sh_711 hOK) rfl rfl (ok_pathAt hOK e116) rfl ⟨by decide, by decide⟩ (Nat.le_of_ble_eq_true rfl) ⟨Nat.zero_le _, Nat.zero_le _⟩ ?_
          refine g_iconst (q0 := 120) rfl dX12_laysChange_119 (k := ?_)
          refine g_aload_n (q0 := 121) (j := 0) rfl dX12_laysChange_120 rfl ?_
          refine g_iload_n (q0 := 122) (j := 2) rfl dX12_laysChange_121 rfl ?_
          refine g_iload_n (q0 := 123) (j := 3) rfl dX12_laysChange_122 rfl ?_
          obtain ⟨r123, e123, h⟩ := gI_bd h
          refine g_callVq1 (as := [_, _]) (rest := [_, _, _]) mt_X12_contentAt mi_X12_contentAt se_X12_contentAt ml_X12_169 dX12_laysChange_123 (q0 := 126) rfl rfl (sh_711 hOK) rfl rfl (ok_contentAt hOK e123) rfl ⟨by decide, by decide⟩ (Nat.le_of_ble_eq_true rfl) ⟨Nat.zero_le _, Nat.zero_le _⟩ ?_
          obtain ⟨m126, e126, h⟩ := gI_bd h
          refine g_callVq0 (as := [_, _, _]) (rest := []) mt_X12_notes mi_X12_notes se_X12_notes ml_X12_650 dX12_laysChange_126 (q0 := 129) rfl rfl (sh_711 hOK) rfl rfl (ok_notes hOK e126) rfl ⟨by decide, by decide⟩ (Nat.le_of_ble_eq_true rfl) ⟨Nat.zero_le _, Nat.zero_le _⟩ ?_
          have hOK4 : gOK sh m126 := gOK_fr hOK (fr_notes (b := m126) e126) (by first | decide | (intro a ha; simp only [List.mem_cons, List.not_mem_nil, or_false] at ha; omega)) (by decide)
          refine g_iincw (q0 := 132) (lv2 := [_, _, _, _, _]) rfl dX12_laysChange_129 rfl (by decide) rfl rfl ?_
          refine g_goto (tgt := 82) dX12_laysChange_132 (by decide) ?_
          exact (hk _ _ h).2.2 _ _ _ _ rfl hOK4
theorem ok_laysChange_13 {sh : gS} {M : gM} {x1 x2 x3 : Int} {b : gM} (hOK : gOK sh M) (h : F_laysChange_13 M x1 x2 x3 = some b) : gA (gr 4 88) yX12_laysChange cX12_laysChange 5 none (gPq sh none b) (0, 0) 13 [(4, 711), (0, x1), (0, x2), (0, x3), (9, 0)] [] sh M :=
  (okp_laysChange _ _ h).1 _ _ _ _ rfl hOK
theorem ok_laysChange_43 {sh : gS} {M : gM} {x1 x2 x3 s0 : Int} {b : gM} (hOK : gOK sh M) (h : F_laysChange_43 M x1 x2 x3 s0 = some b) : gA (gr 4 88) yX12_laysChange cX12_laysChange 5 none (gPq sh none b) (0, 0) 43 [(4, 711), (0, x1), (0, x2), (0, x3), (9, 0)] [(0, s0)] sh M :=
  (okp_laysChange _ _ h).2.1 _ _ _ _ _ rfl hOK
theorem ok_laysChange_82 {sh : gS} {M : gM} {x1 x2 x3 : Int} {b : gM} (hOK : gOK sh M) (h : F_laysChange_82 M x1 x2 x3 = some b) : gA (gr 4 88) yX12_laysChange cX12_laysChange 5 none (gPq sh none b) (0, 0) 82 [(4, 711), (0, x1), (0, x2), (0, x3), (9, 0)] [] sh M :=
  (okp_laysChange _ _ h).2.2 _ _ _ _ rfl hOK
theorem ok_laysChange {sh : gS} {M : gM} {a1 : Int} {b : gM} (hOK : gOK sh M) (h : F_laysChange M a1 = some b) : gC (gr 4 88) yX12_laysChange cX12_laysChange 5 none [(4, 711), (0, a1)] sh M (gPq sh none b) := by
  rw [eq_laysChange] at h
  refine gC_ofA (lv := [_, _, _, _, _]) (by decide +kernel) (Nat.le_of_ble_eq_true rfl) rfl (fun hMw hav => ?_)
  refine g_aload_n (q0 := 1) (j := 0) rfl dX12_laysChange_0 rfl ?_
  refine g_iload_n (q0 := 2) (j := 1) rfl dX12_laysChange_1 rfl ?_
  obtain ⟨r2, e2, h⟩ := gI_bd h
  refine g_callVq1 (as := [_]) (rest := []) mt_X12_before mi_X12_before se_X12_before ml_X12_647 dX12_laysChange_2 (q0 := 5) rfl rfl (sh_711 hOK) rfl rfl (ok_before hOK e2) rfl ⟨by decide, by decide⟩ (Nat.le_of_ble_eq_true rfl) ⟨Nat.zero_le _, Nat.zero_le _⟩ ?_
  refine g_istore_n (q0 := 6) (j := 2) (lv2 := [_, _, _, _, _]) rfl dX12_laysChange_5 (by decide) rfl rfl ?_
  refine g_aload_n (q0 := 7) (j := 0) rfl dX12_laysChange_6 rfl ?_
  refine g_iconst (q0 := 8) rfl dX12_laysChange_7 (k := ?_)
  refine g_put (q0 := 11) (t := 0) (fi := 49) rfl rfl ff_X12_644 dX12_laysChange_8 rfl (sh_711 hOK) rfl (fun _ => ⟨rfl, rfl⟩) ?_
  have hOK5 : gOK sh (gU M 711 49 0) := gOK_o hOK (sh_711 hOK) (f := 49) rfl rfl
  refine g_iconst (q0 := 12) rfl dX12_laysChange_11 (k := ?_)
  refine g_istore_n (q0 := 13) (j := 3) (lv2 := [_, _, _, _, _]) rfl dX12_laysChange_12 (by decide) rfl rfl ?_
  exact ok_laysChange_13 hOK5 h
-- ==== changesThere
theorem dX12_changesThere_0 : decode cX12_changesThere 0 = .ok (.aload_n 0, 1) := by decide +kernel
theorem dX12_changesThere_1 : decode cX12_changesThere 1 = .ok (.iload_n 1, 1) := by decide +kernel
theorem dX12_changesThere_2 : decode cX12_changesThere 2 = .ok (.bipush 122, 2) := by decide +kernel
theorem dX12_changesThere_4 : decode cX12_changesThere 4 = .ok (.invokevirtual 202, 3) := by decide +kernel
theorem dX12_changesThere_7 : decode cX12_changesThere 7 = .ok (.iconst 0, 1) := by decide +kernel
theorem dX12_changesThere_8 : decode cX12_changesThere 8 = .ok (.istore_n 2, 1) := by decide +kernel
theorem dX12_changesThere_9 : decode cX12_changesThere 9 = .ok (.iload_n 2, 1) := by decide +kernel
theorem dX12_changesThere_10 : decode cX12_changesThere 10 = .ok (.aload_n 0, 1) := by decide +kernel
theorem dX12_changesThere_11 : decode cX12_changesThere 11 = .ok (.getfield 644, 3) := by decide +kernel
theorem dX12_changesThere_14 : decode cX12_changesThere 14 = .ok (.if_icmp .ge 43, 3) := by decide +kernel
theorem dX12_changesThere_17 : decode cX12_changesThere 17 = .ok (.aload_n 0, 1) := by decide +kernel
theorem dX12_changesThere_18 : decode cX12_changesThere 18 = .ok (.iload_n 1, 1) := by decide +kernel
theorem dX12_changesThere_19 : decode cX12_changesThere 19 = .ok (.aload_n 0, 1) := by decide +kernel
theorem dX12_changesThere_20 : decode cX12_changesThere 20 = .ok (.getfield 99, 3) := by decide +kernel
theorem dX12_changesThere_23 : decode cX12_changesThere 23 = .ok (.iload_n 2, 1) := by decide +kernel
theorem dX12_changesThere_24 : decode cX12_changesThere 24 = .ok (.iaload, 1) := by decide +kernel
theorem dX12_changesThere_25 : decode cX12_changesThere 25 = .ok (.invokevirtual 632, 3) := by decide +kernel
theorem dX12_changesThere_28 : decode cX12_changesThere 28 = .ok (.istore_n 3, 1) := by decide +kernel
theorem dX12_changesThere_29 : decode cX12_changesThere 29 = .ok (.iload_n 3, 1) := by decide +kernel
theorem dX12_changesThere_30 : decode cX12_changesThere 30 = .ok (.aload_n 0, 1) := by decide +kernel
theorem dX12_changesThere_31 : decode cX12_changesThere 31 = .ok (.getfield 102, 3) := by decide +kernel
theorem dX12_changesThere_34 : decode cX12_changesThere 34 = .ok (.iload_n 2, 1) := by decide +kernel
theorem dX12_changesThere_35 : decode cX12_changesThere 35 = .ok (.iaload, 1) := by decide +kernel
theorem dX12_changesThere_36 : decode cX12_changesThere 36 = .ok (.if_icmp .eq 15, 3) := by decide +kernel
theorem dX12_changesThere_39 : decode cX12_changesThere 39 = .ok (.iload_n 3, 1) := by decide +kernel
theorem dX12_changesThere_40 : decode cX12_changesThere 40 = .ok (.aload_n 0, 1) := by decide +kernel
theorem dX12_changesThere_41 : decode cX12_changesThere 41 = .ok (.getfield 105, 3) := by decide +kernel
theorem dX12_changesThere_44 : decode cX12_changesThere 44 = .ok (.iload_n 2, 1) := by decide +kernel
theorem dX12_changesThere_45 : decode cX12_changesThere 45 = .ok (.iaload, 1) := by decide +kernel
theorem dX12_changesThere_46 : decode cX12_changesThere 46 = .ok (.if_icmp .eq 5, 3) := by decide +kernel
theorem dX12_changesThere_49 : decode cX12_changesThere 49 = .ok (.iconst 0, 1) := by decide +kernel
theorem dX12_changesThere_50 : decode cX12_changesThere 50 = .ok (.ireturn, 1) := by decide +kernel
theorem dX12_changesThere_51 : decode cX12_changesThere 51 = .ok (.iinc 2 1, 3) := by decide +kernel
theorem dX12_changesThere_54 : decode cX12_changesThere 54 = .ok (.goto (-45), 3) := by decide +kernel
theorem dX12_changesThere_57 : decode cX12_changesThere 57 = .ok (.iconst 0, 1) := by decide +kernel
theorem dX12_changesThere_58 : decode cX12_changesThere 58 = .ok (.istore_n 2, 1) := by decide +kernel
theorem dX12_changesThere_59 : decode cX12_changesThere 59 = .ok (.iload_n 2, 1) := by decide +kernel
theorem dX12_changesThere_60 : decode cX12_changesThere 60 = .ok (.aload_n 0, 1) := by decide +kernel
theorem dX12_changesThere_61 : decode cX12_changesThere 61 = .ok (.getfield 644, 3) := by decide +kernel
theorem dX12_changesThere_64 : decode cX12_changesThere 64 = .ok (.if_icmp .ge 46, 3) := by decide +kernel
theorem dX12_changesThere_67 : decode cX12_changesThere 67 = .ok (.aload_n 0, 1) := by decide +kernel
theorem dX12_changesThere_68 : decode cX12_changesThere 68 = .ok (.getfield 102, 3) := by decide +kernel
theorem dX12_changesThere_71 : decode cX12_changesThere 71 = .ok (.iload_n 2, 1) := by decide +kernel
theorem dX12_changesThere_72 : decode cX12_changesThere 72 = .ok (.iaload, 1) := by decide +kernel
theorem dX12_changesThere_73 : decode cX12_changesThere 73 = .ok (.ifCond .ne 31, 3) := by decide +kernel
theorem dX12_changesThere_76 : decode cX12_changesThere 76 = .ok (.aload_n 0, 1) := by decide +kernel
theorem dX12_changesThere_77 : decode cX12_changesThere 77 = .ok (.bipush 122, 2) := by decide +kernel
theorem dX12_changesThere_79 : decode cX12_changesThere 79 = .ok (.aload_n 0, 1) := by decide +kernel
theorem dX12_changesThere_80 : decode cX12_changesThere 80 = .ok (.getfield 99, 3) := by decide +kernel
theorem dX12_changesThere_83 : decode cX12_changesThere 83 = .ok (.iload_n 2, 1) := by decide +kernel
theorem dX12_changesThere_84 : decode cX12_changesThere 84 = .ok (.iaload, 1) := by decide +kernel
theorem dX12_changesThere_85 : decode cX12_changesThere 85 = .ok (.invokevirtual 166, 3) := by decide +kernel
theorem dX12_changesThere_88 : decode cX12_changesThere 88 = .ok (.iconst (-1), 1) := by decide +kernel
theorem dX12_changesThere_89 : decode cX12_changesThere 89 = .ok (.if_icmp .eq 15, 3) := by decide +kernel
theorem dX12_changesThere_92 : decode cX12_changesThere 92 = .ok (.aload_n 0, 1) := by decide +kernel
theorem dX12_changesThere_93 : decode cX12_changesThere 93 = .ok (.bipush 122, 2) := by decide +kernel
theorem dX12_changesThere_95 : decode cX12_changesThere 95 = .ok (.aload_n 0, 1) := by decide +kernel
theorem dX12_changesThere_96 : decode cX12_changesThere 96 = .ok (.getfield 99, 3) := by decide +kernel
theorem dX12_changesThere_99 : decode cX12_changesThere 99 = .ok (.iload_n 2, 1) := by decide +kernel
theorem dX12_changesThere_100 : decode cX12_changesThere 100 = .ok (.iaload, 1) := by decide +kernel
theorem dX12_changesThere_101 : decode cX12_changesThere 101 = .ok (.invokevirtual 313, 3) := by decide +kernel
theorem dX12_changesThere_104 : decode cX12_changesThere 104 = .ok (.iinc 2 1, 3) := by decide +kernel
theorem dX12_changesThere_107 : decode cX12_changesThere 107 = .ok (.goto (-48), 3) := by decide +kernel
theorem dX12_changesThere_110 : decode cX12_changesThere 110 = .ok (.iconst 0, 1) := by decide +kernel
theorem dX12_changesThere_111 : decode cX12_changesThere 111 = .ok (.istore_n 2, 1) := by decide +kernel
theorem dX12_changesThere_112 : decode cX12_changesThere 112 = .ok (.iload_n 2, 1) := by decide +kernel
theorem dX12_changesThere_113 : decode cX12_changesThere 113 = .ok (.aload_n 0, 1) := by decide +kernel
theorem dX12_changesThere_114 : decode cX12_changesThere 114 = .ok (.getfield 644, 3) := by decide +kernel
theorem dX12_changesThere_117 : decode cX12_changesThere 117 = .ok (.if_icmp .ge 36, 3) := by decide +kernel
theorem dX12_changesThere_120 : decode cX12_changesThere 120 = .ok (.aload_n 0, 1) := by decide +kernel
theorem dX12_changesThere_121 : decode cX12_changesThere 121 = .ok (.getfield 102, 3) := by decide +kernel
theorem dX12_changesThere_124 : decode cX12_changesThere 124 = .ok (.iload_n 2, 1) := by decide +kernel
theorem dX12_changesThere_125 : decode cX12_changesThere 125 = .ok (.iaload, 1) := by decide +kernel
theorem dX12_changesThere_126 : decode cX12_changesThere 126 = .ok (.ifCond .eq 21, 3) := by decide +kernel
theorem dX12_changesThere_129 : decode cX12_changesThere 129 = .ok (.aload_n 0, 1) := by decide +kernel
theorem dX12_changesThere_130 : decode cX12_changesThere 130 = .ok (.bipush 122, 2) := by decide +kernel
theorem dX12_changesThere_132 : decode cX12_changesThere 132 = .ok (.aload_n 0, 1) := by decide +kernel
theorem dX12_changesThere_133 : decode cX12_changesThere 133 = .ok (.getfield 99, 3) := by decide +kernel
theorem dX12_changesThere_136 : decode cX12_changesThere 136 = .ok (.iload_n 2, 1) := by decide +kernel
theorem dX12_changesThere_137 : decode cX12_changesThere 137 = .ok (.iaload, 1) := by decide +kernel
theorem dX12_changesThere_138 : decode cX12_changesThere 138 = .ok (.aload_n 0, 1) := by decide +kernel
theorem dX12_changesThere_139 : decode cX12_changesThere 139 = .ok (.getfield 102, 3) := by decide +kernel
theorem dX12_changesThere_142 : decode cX12_changesThere 142 = .ok (.iload_n 2, 1) := by decide +kernel
theorem dX12_changesThere_143 : decode cX12_changesThere 143 = .ok (.iaload, 1) := by decide +kernel
theorem dX12_changesThere_144 : decode cX12_changesThere 144 = .ok (.invokevirtual 309, 3) := by decide +kernel
theorem dX12_changesThere_147 : decode cX12_changesThere 147 = .ok (.iinc 2 1, 3) := by decide +kernel
theorem dX12_changesThere_150 : decode cX12_changesThere 150 = .ok (.goto (-38), 3) := by decide +kernel
theorem dX12_changesThere_153 : decode cX12_changesThere 153 = .ok (.aload_n 0, 1) := by decide +kernel
theorem dX12_changesThere_154 : decode cX12_changesThere 154 = .ok (.bipush 122, 2) := by decide +kernel
theorem dX12_changesThere_156 : decode cX12_changesThere 156 = .ok (.invokevirtual 635, 3) := by decide +kernel
theorem dX12_changesThere_159 : decode cX12_changesThere 159 = .ok (.ireturn, 1) := by decide +kernel
noncomputable def st_changesThere : Nat × List Int × gM → Option ((Nat × List Int × gM) ⊕ (Int × gM))
  | (0, [x1, x2], M) => (if x2 < (M 711 49) then
      (if 0 ≤ x2 ∧ x2 < 32 then
        (Option.bind (F_contentBy M x1 (M 741 x2)) (fun r25 =>
          (if r25 = (M 742 x2) then
            some (.inl (0, [x1, (gw32 (x2 + 1))], M))
          else
            (if r25 = (M 743 x2) then
              some (.inl (0, [x1, (gw32 (x2 + 1))], M))
            else
              some (.inr (0, M))))))
      else none)
    else
      some (.inl (1, [x1, 0], M)))
  | (1, [x1, x2], M) => (if x2 < (M 711 49) then
      (if 0 ≤ x2 ∧ x2 < 32 then
        (if (M 742 x2) = 0 then
          (Option.bind (F_fileAt M 122 (M 741 x2)) (fun r85 =>
            (if r85 = -1 then
              some (.inl (1, [x1, (gw32 (x2 + 1))], M))
            else
              (Option.bind (F_takes M 122 (M 741 x2)) (fun m101 =>
                some (.inl (1, [x1, (gw32 (x2 + 1))], m101)))))))
        else
          some (.inl (1, [x1, (gw32 (x2 + 1))], M)))
      else none)
    else
      some (.inl (2, [x1, 0], M)))
  | (2, [x1, x2], M) => (if x2 < (M 711 49) then
      (if 0 ≤ x2 ∧ x2 < 32 then
        (if (M 742 x2) = 0 then
          some (.inl (2, [x1, (gw32 (x2 + 1))], M))
        else
          (Option.bind (F_puts M 122 (M 741 x2) (M 742 x2)) (fun m144 =>
            some (.inl (2, [x1, (gw32 (x2 + 1))], m144)))))
      else none)
    else
      (Option.bind (F_isTree M 122) (fun r156 =>
        some (.inr (r156, M)))))
  | _ => none
theorem sk_changesThere_9 (k : Nat × List Int × gM → Option (Int × gM)) (M : gM) (x1 x2 : Int) : gWk k (st_changesThere (0, [x1, x2], M)) = (if x2 < (M 711 49) then
    (if 0 ≤ x2 ∧ x2 < 32 then
      (Option.bind (F_contentBy M x1 (M 741 x2)) (fun r25 =>
        (if r25 = (M 742 x2) then
          k (0, [x1, (gw32 (x2 + 1))], M)
        else
          (if r25 = (M 743 x2) then
            k (0, [x1, (gw32 (x2 + 1))], M)
          else
            some (0, M)))))
    else none)
  else
    k (1, [x1, 0], M)) := by
  simp only [st_changesThere, gWk_ite, gWk_bind, gWk_inl, gWk_inr, gWk_none]
theorem sk_changesThere_59 (k : Nat × List Int × gM → Option (Int × gM)) (M : gM) (x1 x2 : Int) : gWk k (st_changesThere (1, [x1, x2], M)) = (if x2 < (M 711 49) then
    (if 0 ≤ x2 ∧ x2 < 32 then
      (if (M 742 x2) = 0 then
        (Option.bind (F_fileAt M 122 (M 741 x2)) (fun r85 =>
          (if r85 = -1 then
            k (1, [x1, (gw32 (x2 + 1))], M)
          else
            (Option.bind (F_takes M 122 (M 741 x2)) (fun m101 =>
              k (1, [x1, (gw32 (x2 + 1))], m101))))))
      else
        k (1, [x1, (gw32 (x2 + 1))], M))
    else none)
  else
    k (2, [x1, 0], M)) := by
  simp only [st_changesThere, gWk_ite, gWk_bind, gWk_inl, gWk_inr, gWk_none]
theorem sk_changesThere_112 (k : Nat × List Int × gM → Option (Int × gM)) (M : gM) (x1 x2 : Int) : gWk k (st_changesThere (2, [x1, x2], M)) = (if x2 < (M 711 49) then
    (if 0 ≤ x2 ∧ x2 < 32 then
      (if (M 742 x2) = 0 then
        k (2, [x1, (gw32 (x2 + 1))], M)
      else
        (Option.bind (F_puts M 122 (M 741 x2) (M 742 x2)) (fun m144 =>
          k (2, [x1, (gw32 (x2 + 1))], m144))))
    else none)
  else
    (Option.bind (F_isTree M 122) (fun r156 =>
      some (r156, M)))) := by
  simp only [st_changesThere, gWk_ite, gWk_bind, gWk_inl, gWk_inr, gWk_none]
noncomputable def F_changesThere_9 (M : gM) (x1 x2 : Int) : Option (Int × gM) := gWh (st_changesThere) (0, [x1, x2], M)
noncomputable def F_changesThere_59 (M : gM) (x1 x2 : Int) : Option (Int × gM) := gWh (st_changesThere) (1, [x1, x2], M)
noncomputable def F_changesThere_112 (M : gM) (x1 x2 : Int) : Option (Int × gM) := gWh (st_changesThere) (2, [x1, x2], M)
theorem eq_changesThere_9 (M : gM) (x1 x2 : Int) : F_changesThere_9 M x1 x2 = (if x2 < (M 711 49) then
    (if 0 ≤ x2 ∧ x2 < 32 then
      (Option.bind (F_contentBy M x1 (M 741 x2)) (fun r25 =>
        (if r25 = (M 742 x2) then
          F_changesThere_9 M x1 (gw32 (x2 + 1))
        else
          (if r25 = (M 743 x2) then
            F_changesThere_9 M x1 (gw32 (x2 + 1))
          else
            some (0, M)))))
    else none)
  else
    F_changesThere_59 M x1 0) := (gWh_eq _).trans (sk_changesThere_9 _ M x1 x2)
theorem eq_changesThere_59 (M : gM) (x1 x2 : Int) : F_changesThere_59 M x1 x2 = (if x2 < (M 711 49) then
    (if 0 ≤ x2 ∧ x2 < 32 then
      (if (M 742 x2) = 0 then
        (Option.bind (F_fileAt M 122 (M 741 x2)) (fun r85 =>
          (if r85 = -1 then
            F_changesThere_59 M x1 (gw32 (x2 + 1))
          else
            (Option.bind (F_takes M 122 (M 741 x2)) (fun m101 =>
              F_changesThere_59 m101 x1 (gw32 (x2 + 1)))))))
      else
        F_changesThere_59 M x1 (gw32 (x2 + 1)))
    else none)
  else
    F_changesThere_112 M x1 0) := (gWh_eq _).trans (sk_changesThere_59 _ M x1 x2)
theorem eq_changesThere_112 (M : gM) (x1 x2 : Int) : F_changesThere_112 M x1 x2 = (if x2 < (M 711 49) then
    (if 0 ≤ x2 ∧ x2 < 32 then
      (if (M 742 x2) = 0 then
        F_changesThere_112 M x1 (gw32 (x2 + 1))
      else
        (Option.bind (F_puts M 122 (M 741 x2) (M 742 x2)) (fun m144 =>
          F_changesThere_112 m144 x1 (gw32 (x2 + 1)))))
    else none)
  else
    (Option.bind (F_isTree M 122) (fun r156 =>
      some (r156, M)))) := (gWh_eq _).trans (sk_changesThere_112 _ M x1 x2)
noncomputable def F_changesThere (M : gM) (a1 : Int) : Option (Int × gM) := (Option.bind (F_copyTree M a1 122) (fun m4 =>
    F_changesThere_9 m4 a1 0))
theorem eq_changesThere (M : gM) (a1 : Int) : F_changesThere M a1 = (Option.bind (F_copyTree M a1 122) (fun m4 =>
    F_changesThere_9 m4 a1 0)) := rfl
theorem frp_changesThere : ∀ (s : Nat × List Int × gM) (b : Int × gM), gWh (st_changesThere) s = some b → (∀ (x1 x2 : Int) (M : gM), s = (0, [x1, x2], M) → gFr [718, 719, 720] [] M b.2) ∧ (∀ (x1 x2 : Int) (M : gM), s = (1, [x1, x2], M) → gFr [718, 719, 720] [] M b.2) ∧ (∀ (x1 x2 : Int) (M : gM), s = (2, [x1, x2], M) → gFr [718, 719, 720] [] M b.2) := by
  refine gWh_ind (fun k hk s b h => ⟨?_, ?_, ?_⟩)
  · rintro x1 x2 M rfl
    rw [sk_changesThere_9] at h
    rcases gI_or h with h | h
    · obtain ⟨g1, h⟩ := gI_gd h
      obtain ⟨r25, e25, h⟩ := gI_bd h
      rcases gI_or h with h | h
      · exact gFr_t (gFr_r [718, 719, 720] [] _) ((hk _ _ h).1 _ _ _ rfl) (fun _ z => z) (fun _ z => z)
      · rcases gI_or h with h | h
        · exact gFr_t (gFr_r [718, 719, 720] [] _) ((hk _ _ h).1 _ _ _ rfl) (fun _ z => z) (fun _ z => z)
        · rw [← Option.some.inj h]
          exact (gFr_r [718, 719, 720] [] _)
    · exact gFr_t (gFr_r [718, 719, 720] [] _) ((hk _ _ h).2.1 _ _ _ rfl) (fun _ z => z) (fun _ z => z)
  · rintro x1 x2 M rfl
    rw [sk_changesThere_59] at h
    rcases gI_or h with h | h
    · obtain ⟨g2, h⟩ := gI_gd h
      rcases gI_or h with h | h
      · obtain ⟨r85, e85, h⟩ := gI_bd h
        rcases gI_or h with h | h
        · exact gFr_t (gFr_r [718, 719, 720] [] _) ((hk _ _ h).2.1 _ _ _ rfl) (fun _ z => z) (fun _ z => z)
        · obtain ⟨m101, e101, h⟩ := gI_bd h
          exact gFr_t (gFr_t (gFr_r [718, 719, 720] [] _) (fr_takes (b := m101) e101) (by first | decide | simp) (by decide)) ((hk _ _ h).2.1 _ _ _ rfl) (fun _ z => z) (fun _ z => z)
      · exact gFr_t (gFr_r [718, 719, 720] [] _) ((hk _ _ h).2.1 _ _ _ rfl) (fun _ z => z) (fun _ z => z)
    · exact gFr_t (gFr_r [718, 719, 720] [] _) ((hk _ _ h).2.2 _ _ _ rfl) (fun _ z => z) (fun _ z => z)
  · rintro x1 x2 M rfl
    rw [sk_changesThere_112] at h
    rcases gI_or h with h | h
    · obtain ⟨g4, h⟩ := gI_gd h
      rcases gI_or h with h | h
      · exact gFr_t (gFr_r [718, 719, 720] [] _) ((hk _ _ h).2.2 _ _ _ rfl) (fun _ z => z) (fun _ z => z)
      · obtain ⟨m144, e144, h⟩ := gI_bd h
        exact gFr_t (gFr_t (gFr_r [718, 719, 720] [] _) (fr_puts (b := m144) e144) (by first | decide | simp) (by decide)) ((hk _ _ h).2.2 _ _ _ rfl) (fun _ z => z) (fun _ z => z)
    · obtain ⟨r156, e156, h⟩ := gI_bd h
      rw [← Option.some.inj h]
      exact (gFr_r [718, 719, 720] [] _)
theorem fr_changesThere_9 {M : gM} {x1 x2 : Int} {b : Int × gM} (h : F_changesThere_9 M x1 x2 = some b) : gFr [718, 719, 720] [] M b.2 :=
  (frp_changesThere _ _ h).1 _ _ _ rfl
theorem fr_changesThere_59 {M : gM} {x1 x2 : Int} {b : Int × gM} (h : F_changesThere_59 M x1 x2 = some b) : gFr [718, 719, 720] [] M b.2 :=
  (frp_changesThere _ _ h).2.1 _ _ _ rfl
theorem fr_changesThere_112 {M : gM} {x1 x2 : Int} {b : Int × gM} (h : F_changesThere_112 M x1 x2 = some b) : gFr [718, 719, 720] [] M b.2 :=
  (frp_changesThere _ _ h).2.2 _ _ _ rfl
theorem fr_changesThere {M : gM} {a1 : Int} {b : Int × gM} (h : F_changesThere M a1 = some b) : gFr [718, 719, 720] [] M b.2 := by
  rw [eq_changesThere] at h
  obtain ⟨m4, e4, h⟩ := gI_bd h
  exact gFr_t (gFr_t (gFr_r [718, 719, 720] [] _) (fr_copyTree (b := m4) e4) (by first | decide | simp) (by decide)) (fr_changesThere_9 h) (fun _ z => z) (fun _ z => z)
theorem bop_changesThere : ∀ (s : Nat × List Int × gM) (b : Int × gM), gWh (st_changesThere) s = some b → (∀ (x1 x2 : Int) (M : gM), s = (0, [x1, x2], M) → b.1 = 0 ∨ b.1 = 1) ∧ (∀ (x1 x2 : Int) (M : gM), s = (1, [x1, x2], M) → b.1 = 0 ∨ b.1 = 1) ∧ (∀ (x1 x2 : Int) (M : gM), s = (2, [x1, x2], M) → b.1 = 0 ∨ b.1 = 1) := by
  refine gWh_ind (fun k hk s b h => ⟨?_, ?_, ?_⟩)
  · rintro x1 x2 M rfl
    rw [sk_changesThere_9] at h
    rcases gI_or h with h | h
    · obtain ⟨g1, h⟩ := gI_gd h
      obtain ⟨r25, e25, h⟩ := gI_bd h
      rcases gI_or h with h | h
      · exact (hk _ _ h).1 _ _ _ rfl
      · rcases gI_or h with h | h
        · exact (hk _ _ h).1 _ _ _ rfl
        · rw [← Option.some.inj h]
          exact (Or.inl rfl)
    · exact (hk _ _ h).2.1 _ _ _ rfl
  · rintro x1 x2 M rfl
    rw [sk_changesThere_59] at h
    rcases gI_or h with h | h
    · obtain ⟨g2, h⟩ := gI_gd h
      rcases gI_or h with h | h
      · obtain ⟨r85, e85, h⟩ := gI_bd h
        rcases gI_or h with h | h
        · exact (hk _ _ h).2.1 _ _ _ rfl
        · obtain ⟨m101, e101, h⟩ := gI_bd h
          exact (hk _ _ h).2.1 _ _ _ rfl
      · exact (hk _ _ h).2.1 _ _ _ rfl
    · exact (hk _ _ h).2.2 _ _ _ rfl
  · rintro x1 x2 M rfl
    rw [sk_changesThere_112] at h
    rcases gI_or h with h | h
    · obtain ⟨g4, h⟩ := gI_gd h
      rcases gI_or h with h | h
      · exact (hk _ _ h).2.2 _ _ _ rfl
      · obtain ⟨m144, e144, h⟩ := gI_bd h
        exact (hk _ _ h).2.2 _ _ _ rfl
    · obtain ⟨r156, e156, h⟩ := gI_bd h
      rw [← Option.some.inj h]
      exact (bo_isTree (b := r156) e156)
theorem bo_changesThere_9 {M : gM} {x1 x2 : Int} {b : Int × gM} (h : F_changesThere_9 M x1 x2 = some b) : b.1 = 0 ∨ b.1 = 1 :=
  (bop_changesThere _ _ h).1 _ _ _ rfl
theorem bo_changesThere_59 {M : gM} {x1 x2 : Int} {b : Int × gM} (h : F_changesThere_59 M x1 x2 = some b) : b.1 = 0 ∨ b.1 = 1 :=
  (bop_changesThere _ _ h).2.1 _ _ _ rfl
theorem bo_changesThere_112 {M : gM} {x1 x2 : Int} {b : Int × gM} (h : F_changesThere_112 M x1 x2 = some b) : b.1 = 0 ∨ b.1 = 1 :=
  (bop_changesThere _ _ h).2.2 _ _ _ rfl
theorem bo_changesThere {M : gM} {a1 : Int} {b : Int × gM} (h : F_changesThere M a1 = some b) : b.1 = 0 ∨ b.1 = 1 := by
  rw [eq_changesThere] at h
  obtain ⟨m4, e4, h⟩ := gI_bd h
  exact bo_changesThere_9 h
theorem okp_changesThere {sh : gS} : ∀ (s : Nat × List Int × gM) (b : Int × gM), gWh (st_changesThere) s = some b → (∀ (x1 x2 : Int) (M : gM), s = (0, [x1, x2], M) → gOK sh M → gA (gr 4 90) yX12_changesThere cX12_changesThere 4 (some (.boolean)) (gPq sh (some (0, b.1)) b.2) (0, 0) 9 [(4, 711), (0, x1), (0, x2), (9, 0)] [] sh M) ∧ (∀ (x1 x2 : Int) (M : gM), s = (1, [x1, x2], M) → gOK sh M → gA (gr 4 90) yX12_changesThere cX12_changesThere 4 (some (.boolean)) (gPq sh (some (0, b.1)) b.2) (0, 0) 59 [(4, 711), (0, x1), (0, x2), (9, 0)] [] sh M) ∧ (∀ (x1 x2 : Int) (M : gM), s = (2, [x1, x2], M) → gOK sh M → gA (gr 4 90) yX12_changesThere cX12_changesThere 4 (some (.boolean)) (gPq sh (some (0, b.1)) b.2) (0, 0) 112 [(4, 711), (0, x1), (0, x2), (9, 0)] [] sh M) := by
  refine gWh_ind (fun k hk s b h => ⟨?_, ?_, ?_⟩)
  · rintro x1 x2 M rfl hOK
    rw [sk_changesThere_9] at h
    refine g_iload_n (q0 := 10) (j := 2) rfl dX12_changesThere_9 rfl ?_
    refine g_aload_n (q0 := 11) (j := 0) rfl dX12_changesThere_10 rfl ?_
    refine g_getf (q0 := 14) (t := 0) (fi := 49) rfl rfl ff_X12_644 dX12_changesThere_11 rfl (sh_711 hOK) ?_
    refine g_icmp_ge (q0 := 17) (tgt := 57) rfl dX12_changesThere_14 (by decide) (fun h14 => ?_) (fun h14 => ?_)
    · replace h := gI_neg (Int.not_lt.mpr h14) h
      refine g_iconst (q0 := 58) rfl dX12_changesThere_57 (k := ?_)
      refine g_istore_n (q0 := 59) (j := 2) (lv2 := [_, _, _, _]) rfl dX12_changesThere_58 (by decide) rfl rfl ?_
      exact (hk _ _ h).2.1 _ _ _ rfl hOK
    · replace h := gI_pos h14 h
      refine g_aload_n (q0 := 18) (j := 0) rfl dX12_changesThere_17 rfl ?_
      refine g_iload_n (q0 := 19) (j := 1) rfl dX12_changesThere_18 rfl ?_
      refine g_aload_n (q0 := 20) (j := 0) rfl dX12_changesThere_19 rfl ?_
      refine g_getp (q0 := 23) (b := 741) rfl ff_X12_99 dX12_changesThere_20 rfl hOK (by decide) (sh_711 hOK) rfl (by decide) ?_
      refine g_iload_n (q0 := 24) (j := 2) rfl dX12_changesThere_23 rfl ?_
      obtain ⟨g1, h⟩ := gI_gd h
      refine g_iald (q0 := 25) rfl dX12_changesThere_24 (sh_741 hOK) g1.1 g1.2 ?_
      obtain ⟨r25, e25, h⟩ := gI_bd h
      refine g_callVq1 (as := [_, _]) (rest := []) mt_X12_contentBy mi_X12_contentBy se_X12_contentBy ml_X12_632 dX12_changesThere_25 (q0 := 28) rfl rfl (sh_711 hOK) rfl rfl (ok_contentBy hOK e25) rfl ⟨by decide, by decide⟩ (Nat.le_of_ble_eq_true rfl) ⟨Nat.zero_le _, Nat.zero_le _⟩ ?_
      refine g_istore_n (q0 := 29) (j := 3) (lv2 := [_, _, _, _]) rfl dX12_changesThere_28 (by decide) rfl rfl ?_
      refine g_iload_n (q0 := 30) (j := 3) rfl dX12_changesThere_29 rfl ?_
      refine g_aload_n (q0 := 31) (j := 0) rfl dX12_changesThere_30 rfl ?_
      refine g_getp (q0 := 34) (b := 742) rfl ff_X12_102 dX12_changesThere_31 rfl hOK (by decide) (sh_711 hOK) rfl (by decide) ?_
      refine g_iload_n (q0 := 35) (j := 2) rfl dX12_changesThere_34 rfl ?_
      refine g_iald (q0 := 36) rfl dX12_changesThere_35 (sh_742 hOK) g1.1 g1.2 ?_
      refine g_icmp_eq (q0 := 39) (tgt := 51) rfl dX12_changesThere_36 (by decide) (fun h36 => ?_) (fun h36 => ?_)
      · replace h := gI_pos h36 h
        refine g_iincw (q0 := 54) (lv2 := [_, _, _, _]) rfl dX12_changesThere_51 rfl (by decide) rfl rfl ?_
        refine g_goto (tgt := 9) dX12_changesThere_54 (by decide) ?_
        refine gA_jk (lv1 := [_, _, _, (9, 0)]) ⟨.inl rfl, .inl rfl, .inl rfl, .inr rfl, trivial⟩ ?_
        exact (hk _ _ h).1 _ _ _ rfl hOK
      · replace h := gI_neg h36 h
        refine g_iload_n (q0 := 40) (j := 3) rfl dX12_changesThere_39 rfl ?_
        refine g_aload_n (q0 := 41) (j := 0) rfl dX12_changesThere_40 rfl ?_
        refine g_getp (q0 := 44) (b := 743) rfl ff_X12_105 dX12_changesThere_41 rfl hOK (by decide) (sh_711 hOK) rfl (by decide) ?_
        refine g_iload_n (q0 := 45) (j := 2) rfl dX12_changesThere_44 rfl ?_
        refine g_iald (q0 := 46) rfl dX12_changesThere_45 (sh_743 hOK) g1.1 g1.2 ?_
        refine g_icmp_eq (q0 := 49) (tgt := 51) rfl dX12_changesThere_46 (by decide) (fun h46 => ?_) (fun h46 => ?_)
        · replace h := gI_pos h46 h
          refine g_iincw (q0 := 54) (lv2 := [_, _, _, _]) rfl dX12_changesThere_51 rfl (by decide) rfl rfl ?_
          refine g_goto (tgt := 9) dX12_changesThere_54 (by decide) ?_
          refine gA_jk (lv1 := [_, _, _, (9, 0)]) ⟨.inl rfl, .inl rfl, .inl rfl, .inr rfl, trivial⟩ ?_
          exact (hk _ _ h).1 _ _ _ rfl hOK
        · replace h := gI_neg h46 h
          refine g_iconst (q0 := 50) rfl dX12_changesThere_49 (k := ?_)
          rw [← Option.some.inj h]
          refine g_zreturn dX12_changesThere_50 rfl (gnz (Or.inl rfl)) ⟨Nat.zero_le _, Nat.zero_le _⟩ ?_
          exact ⟨rfl, rfl, rfl⟩
  · rintro x1 x2 M rfl hOK
    rw [sk_changesThere_59] at h
    refine g_iload_n (q0 := 60) (j := 2) rfl dX12_changesThere_59 rfl ?_
    refine g_aload_n (q0 := 61) (j := 0) rfl dX12_changesThere_60 rfl ?_
    refine g_getf (q0 := 64) (t := 0) (fi := 49) rfl rfl ff_X12_644 dX12_changesThere_61 rfl (sh_711 hOK) ?_
    refine g_icmp_ge (q0 := 67) (tgt := 110) rfl dX12_changesThere_64 (by decide) (fun h64 => ?_) (fun h64 => ?_)
    · replace h := gI_neg (Int.not_lt.mpr h64) h
      refine g_iconst (q0 := 111) rfl dX12_changesThere_110 (k := ?_)
      refine g_istore_n (q0 := 112) (j := 2) (lv2 := [_, _, _, _]) rfl dX12_changesThere_111 (by decide) rfl rfl ?_
      exact (hk _ _ h).2.2 _ _ _ rfl hOK
    · replace h := gI_pos h64 h
      refine g_aload_n (q0 := 68) (j := 0) rfl dX12_changesThere_67 rfl ?_
      refine g_getp (q0 := 71) (b := 742) rfl ff_X12_102 dX12_changesThere_68 rfl hOK (by decide) (sh_711 hOK) rfl (by decide) ?_
      refine g_iload_n (q0 := 72) (j := 2) rfl dX12_changesThere_71 rfl ?_
      obtain ⟨g2, h⟩ := gI_gd h
      refine g_iald (q0 := 73) rfl dX12_changesThere_72 (sh_742 hOK) g2.1 g2.2 ?_
      refine g_if_ne (q0 := 76) (tgt := 104) rfl dX12_changesThere_73 (by decide) (fun h73 => ?_) (fun h73 => ?_)
      · replace h := gI_neg h73 h
        refine g_iincw (q0 := 107) (lv2 := [_, _, _, _]) rfl dX12_changesThere_104 rfl (by decide) rfl rfl ?_
        refine g_goto (tgt := 59) dX12_changesThere_107 (by decide) ?_
        exact (hk _ _ h).2.1 _ _ _ rfl hOK
      · replace h := gI_pos h73 h
        refine g_aload_n (q0 := 77) (j := 0) rfl dX12_changesThere_76 rfl ?_
        refine g_bipush (q0 := 79) rfl dX12_changesThere_77 (k := ?_)
        refine g_aload_n (q0 := 80) (j := 0) rfl dX12_changesThere_79 rfl ?_
        refine g_getp (q0 := 83) (b := 741) rfl ff_X12_99 dX12_changesThere_80 rfl hOK (by decide) (sh_711 hOK) rfl (by decide) ?_
        refine g_iload_n (q0 := 84) (j := 2) rfl dX12_changesThere_83 rfl ?_
        refine g_iald (q0 := 85) rfl dX12_changesThere_84 (sh_741 hOK) g2.1 g2.2 ?_
        obtain ⟨r85, e85, h⟩ := gI_bd h
        refine g_callVq1 (as := [_, _]) (rest := []) mt_X12_fileAt mi_X12_fileAt se_X12_fileAt ml_X12_166 dX12_changesThere_85 (q0 := 88) rfl rfl (sh_711 hOK) rfl rfl (ok_fileAt hOK e85) rfl ⟨by decide, by decide⟩ (Nat.le_of_ble_eq_true rfl) ⟨Nat.zero_le _, Nat.zero_le _⟩ ?_
        refine g_iconst (q0 := 89) rfl dX12_changesThere_88 (k := ?_)
        refine g_icmp_eq (q0 := 92) (tgt := 104) rfl dX12_changesThere_89 (by decide) (fun h89 => ?_) (fun h89 => ?_)
        · replace h := gI_pos h89 h
          refine g_iincw (q0 := 107) (lv2 := [_, _, _, _]) rfl dX12_changesThere_104 rfl (by decide) rfl rfl ?_
          refine g_goto (tgt := 59) dX12_changesThere_107 (by decide) ?_
          exact (hk _ _ h).2.1 _ _ _ rfl hOK
        · replace h := gI_neg h89 h
          refine g_aload_n (q0 := 93) (j := 0) rfl dX12_changesThere_92 rfl ?_
          refine g_bipush (q0 := 95) rfl dX12_changesThere_93 (k := ?_)
          refine g_aload_n (q0 := 96) (j := 0) rfl dX12_changesThere_95 rfl ?_
          refine g_getp (q0 := 99) (b := 741) rfl ff_X12_99 dX12_changesThere_96 rfl hOK (by decide) (sh_711 hOK) rfl (by decide) ?_
          refine g_iload_n (q0 := 100) (j := 2) rfl dX12_changesThere_99 rfl ?_
          refine g_iald (q0 := 101) rfl dX12_changesThere_100 (sh_741 hOK) g2.1 g2.2 ?_
          obtain ⟨m101, e101, h⟩ := gI_bd h
          refine g_callVq0 (as := [_, _]) (rest := []) mt_X12_takes mi_X12_takes se_X12_takes ml_X12_313 dX12_changesThere_101 (q0 := 104) rfl rfl (sh_711 hOK) rfl rfl (ok_takes hOK e101) rfl ⟨by decide, by decide⟩ (Nat.le_of_ble_eq_true rfl) ⟨Nat.zero_le _, Nat.zero_le _⟩ ?_
          have hOK3 : gOK sh m101 := gOK_fr hOK (fr_takes (b := m101) e101) (by first | decide | (intro a ha; simp only [List.mem_cons, List.not_mem_nil, or_false] at ha; omega)) (by decide)
          refine g_iincw (q0 := 107) (lv2 := [_, _, _, _]) rfl dX12_changesThere_104 rfl (by decide) rfl rfl ?_
          refine g_goto (tgt := 59) dX12_changesThere_107 (by decide) ?_
          exact (hk _ _ h).2.1 _ _ _ rfl hOK3
  · rintro x1 x2 M rfl hOK
    rw [sk_changesThere_112] at h
    refine g_iload_n (q0 := 113) (j := 2) rfl dX12_changesThere_112 rfl ?_
    refine g_aload_n (q0 := 114) (j := 0) rfl dX12_changesThere_113 rfl ?_
    refine g_getf (q0 := 117) (t := 0) (fi := 49) rfl rfl ff_X12_644 dX12_changesThere_114 rfl (sh_711 hOK) ?_
    refine g_icmp_ge (q0 := 120) (tgt := 153) rfl dX12_changesThere_117 (by decide) (fun h117 => ?_) (fun h117 => ?_)
    · replace h := gI_neg (Int.not_lt.mpr h117) h
      refine g_aload_n (q0 := 154) (j := 0) rfl dX12_changesThere_153 rfl ?_
      refine g_bipush (q0 := 156) rfl dX12_changesThere_154 (k := ?_)
      obtain ⟨r156, e156, h⟩ := gI_bd h
      refine g_callVq1 (as := [_]) (rest := []) mt_X12_isTree mi_X12_isTree se_X12_isTree ml_X12_635 dX12_changesThere_156 (q0 := 159) rfl rfl (sh_711 hOK) rfl rfl (ok_isTree hOK e156) rfl ⟨by decide, by decide⟩ (Nat.le_of_ble_eq_true rfl) ⟨Nat.zero_le _, Nat.zero_le _⟩ ?_
      rw [← Option.some.inj h]
      refine g_zreturn dX12_changesThere_159 rfl (gnz (bo_isTree (b := r156) e156)) ⟨Nat.zero_le _, Nat.zero_le _⟩ ?_
      exact ⟨rfl, rfl, rfl⟩
    · replace h := gI_pos h117 h
      refine g_aload_n (q0 := 121) (j := 0) rfl dX12_changesThere_120 rfl ?_
      refine g_getp (q0 := 124) (b := 742) rfl ff_X12_102 dX12_changesThere_121 rfl hOK (by decide) (sh_711 hOK) rfl (by decide) ?_
      refine g_iload_n (q0 := 125) (j := 2) rfl dX12_changesThere_124 rfl ?_
      obtain ⟨g4, h⟩ := gI_gd h
      refine g_iald (q0 := 126) rfl dX12_changesThere_125 (sh_742 hOK) g4.1 g4.2 ?_
      refine g_if_eq (q0 := 129) (tgt := 147) rfl dX12_changesThere_126 (by decide) (fun h126 => ?_) (fun h126 => ?_)
      · replace h := gI_pos h126 h
        refine g_iincw (q0 := 150) (lv2 := [_, _, _, _]) rfl dX12_changesThere_147 rfl (by decide) rfl rfl ?_
        refine g_goto (tgt := 112) dX12_changesThere_150 (by decide) ?_
        exact (hk _ _ h).2.2 _ _ _ rfl hOK
      · replace h := gI_neg h126 h
        refine g_aload_n (q0 := 130) (j := 0) rfl dX12_changesThere_129 rfl ?_
        refine g_bipush (q0 := 132) rfl dX12_changesThere_130 (k := ?_)
        refine g_aload_n (q0 := 133) (j := 0) rfl dX12_changesThere_132 rfl ?_
        refine g_getp (q0 := 136) (b := 741) rfl ff_X12_99 dX12_changesThere_133 rfl hOK (by decide) (sh_711 hOK) rfl (by decide) ?_
        refine g_iload_n (q0 := 137) (j := 2) rfl dX12_changesThere_136 rfl ?_
        refine g_iald (q0 := 138) rfl dX12_changesThere_137 (sh_741 hOK) g4.1 g4.2 ?_
        refine g_aload_n (q0 := 139) (j := 0) rfl dX12_changesThere_138 rfl ?_
        refine g_getp (q0 := 142) (b := 742) rfl ff_X12_102 dX12_changesThere_139 rfl hOK (by decide) (sh_711 hOK) rfl (by decide) ?_
        refine g_iload_n (q0 := 143) (j := 2) rfl dX12_changesThere_142 rfl ?_
        refine g_iald (q0 := 144) rfl dX12_changesThere_143 (sh_742 hOK) g4.1 g4.2 ?_
        obtain ⟨m144, e144, h⟩ := gI_bd h
        refine g_callVq0 (as := [_, _, _]) (rest := []) mt_X12_puts mi_X12_puts se_X12_puts ml_X12_309 dX12_changesThere_144 (q0 := 147) rfl rfl (sh_711 hOK) rfl rfl (ok_puts hOK e144) rfl ⟨by decide, by decide⟩ (Nat.le_of_ble_eq_true rfl) ⟨Nat.zero_le _, Nat.zero_le _⟩ ?_
        have hOK5 : gOK sh m144 := gOK_fr hOK (fr_puts (b := m144) e144) (by first | decide | (intro a ha; simp only [List.mem_cons, List.not_mem_nil, or_false] at ha; omega)) (by decide)
        refine g_iincw (q0 := 150) (lv2 := [_, _, _, _]) rfl dX12_changesThere_147 rfl (by decide) rfl rfl ?_
        refine g_goto (tgt := 112) dX12_changesThere_150 (by decide) ?_
        exact (hk _ _ h).2.2 _ _ _ rfl hOK5
theorem ok_changesThere_9 {sh : gS} {M : gM} {x1 x2 : Int} {b : Int × gM} (hOK : gOK sh M) (h : F_changesThere_9 M x1 x2 = some b) : gA (gr 4 90) yX12_changesThere cX12_changesThere 4 (some (.boolean)) (gPq sh (some (0, b.1)) b.2) (0, 0) 9 [(4, 711), (0, x1), (0, x2), (9, 0)] [] sh M :=
  (okp_changesThere _ _ h).1 _ _ _ rfl hOK
theorem ok_changesThere_59 {sh : gS} {M : gM} {x1 x2 : Int} {b : Int × gM} (hOK : gOK sh M) (h : F_changesThere_59 M x1 x2 = some b) : gA (gr 4 90) yX12_changesThere cX12_changesThere 4 (some (.boolean)) (gPq sh (some (0, b.1)) b.2) (0, 0) 59 [(4, 711), (0, x1), (0, x2), (9, 0)] [] sh M :=
  (okp_changesThere _ _ h).2.1 _ _ _ rfl hOK
theorem ok_changesThere_112 {sh : gS} {M : gM} {x1 x2 : Int} {b : Int × gM} (hOK : gOK sh M) (h : F_changesThere_112 M x1 x2 = some b) : gA (gr 4 90) yX12_changesThere cX12_changesThere 4 (some (.boolean)) (gPq sh (some (0, b.1)) b.2) (0, 0) 112 [(4, 711), (0, x1), (0, x2), (9, 0)] [] sh M :=
  (okp_changesThere _ _ h).2.2 _ _ _ rfl hOK
theorem ok_changesThere {sh : gS} {M : gM} {a1 : Int} {b : Int × gM} (hOK : gOK sh M) (h : F_changesThere M a1 = some b) : gC (gr 4 90) yX12_changesThere cX12_changesThere 4 (some (.boolean)) [(4, 711), (0, a1)] sh M (gPq sh (some (0, b.1)) b.2) := by
  rw [eq_changesThere] at h
  refine gC_ofA (lv := [_, _, _, _]) (by decide +kernel) (Nat.le_of_ble_eq_true rfl) rfl (fun hMw hav => ?_)
  refine g_aload_n (q0 := 1) (j := 0) rfl dX12_changesThere_0 rfl ?_
  refine g_iload_n (q0 := 2) (j := 1) rfl dX12_changesThere_1 rfl ?_
  refine g_bipush (q0 := 4) rfl dX12_changesThere_2 (k := ?_)
  obtain ⟨m4, e4, h⟩ := gI_bd h
  refine g_callVq0 (as := [_, _]) (rest := []) mt_X12_copyTree mi_X12_copyTree se_X12_copyTree ml_X12_202 dX12_changesThere_4 (q0 := 7) rfl rfl (sh_711 hOK) rfl rfl (ok_copyTree hOK e4) rfl ⟨by decide, by decide⟩ (Nat.le_of_ble_eq_true rfl) ⟨Nat.zero_le _, Nat.zero_le _⟩ ?_
  have hOK6 : gOK sh m4 := gOK_fr hOK (fr_copyTree (b := m4) e4) (by first | decide | (intro a ha; simp only [List.mem_cons, List.not_mem_nil, or_false] at ha; omega)) (by decide)
  refine g_iconst (q0 := 8) rfl dX12_changesThere_7 (k := ?_)
  refine g_istore_n (q0 := 9) (j := 2) (lv2 := [_, _, _, _]) rfl dX12_changesThere_8 (by decide) rfl rfl ?_
  exact ok_changesThere_9 hOK6 h
-- ==== replay
theorem dX12_replay_0 : decode cX12_replay 0 = .ok (.iload_n 1, 1) := by decide +kernel
theorem dX12_replay_1 : decode cX12_replay 1 = .ok (.invokestatic 353, 3) := by decide +kernel
theorem dX12_replay_4 : decode cX12_replay 4 = .ok (.ifCond .eq 21, 3) := by decide +kernel
theorem dX12_replay_7 : decode cX12_replay 7 = .ok (.iload_n 2, 1) := by decide +kernel
theorem dX12_replay_8 : decode cX12_replay 8 = .ok (.iconst 0, 1) := by decide +kernel
theorem dX12_replay_9 : decode cX12_replay 9 = .ok (.bipush 25, 2) := by decide +kernel
theorem dX12_replay_11 : decode cX12_replay 11 = .ok (.invokestatic 182, 3) := by decide +kernel
theorem dX12_replay_14 : decode cX12_replay 14 = .ok (.ifCond .eq 11, 3) := by decide +kernel
theorem dX12_replay_17 : decode cX12_replay 17 = .ok (.aload_n 0, 1) := by decide +kernel
theorem dX12_replay_18 : decode cX12_replay 18 = .ok (.iload_n 3, 1) := by decide +kernel
theorem dX12_replay_19 : decode cX12_replay 19 = .ok (.invokevirtual 229, 3) := by decide +kernel
theorem dX12_replay_22 : decode cX12_replay 22 = .ok (.ifCond .ne 5, 3) := by decide +kernel
theorem dX12_replay_25 : decode cX12_replay 25 = .ok (.iconst (-1), 1) := by decide +kernel
theorem dX12_replay_26 : decode cX12_replay 26 = .ok (.ireturn, 1) := by decide +kernel
theorem dX12_replay_27 : decode cX12_replay 27 = .ok (.aload_n 0, 1) := by decide +kernel
theorem dX12_replay_28 : decode cX12_replay 28 = .ok (.iload_n 1, 1) := by decide +kernel
theorem dX12_replay_29 : decode cX12_replay 29 = .ok (.iload_n 2, 1) := by decide +kernel
theorem dX12_replay_30 : decode cX12_replay 30 = .ok (.invokevirtual 638, 3) := by decide +kernel
theorem dX12_replay_33 : decode cX12_replay 33 = .ok (.istore 4, 2) := by decide +kernel
theorem dX12_replay_35 : decode cX12_replay 35 = .ok (.iload 4, 2) := by decide +kernel
theorem dX12_replay_37 : decode cX12_replay 37 = .ok (.iconst (-1), 1) := by decide +kernel
theorem dX12_replay_38 : decode cX12_replay 38 = .ok (.if_icmp .ne 6, 3) := by decide +kernel
theorem dX12_replay_41 : decode cX12_replay 41 = .ok (.bipush (-4), 2) := by decide +kernel
theorem dX12_replay_43 : decode cX12_replay 43 = .ok (.ireturn, 1) := by decide +kernel
theorem dX12_replay_44 : decode cX12_replay 44 = .ok (.aload_n 0, 1) := by decide +kernel
theorem dX12_replay_45 : decode cX12_replay 45 = .ok (.iload_n 3, 1) := by decide +kernel
theorem dX12_replay_46 : decode cX12_replay 46 = .ok (.invokevirtual 653, 3) := by decide +kernel
theorem dX12_replay_49 : decode cX12_replay 49 = .ok (.aload_n 0, 1) := by decide +kernel
theorem dX12_replay_50 : decode cX12_replay 50 = .ok (.iload 4, 2) := by decide +kernel
theorem dX12_replay_52 : decode cX12_replay 52 = .ok (.invokevirtual 656, 3) := by decide +kernel
theorem dX12_replay_55 : decode cX12_replay 55 = .ok (.ifCond .ne 6, 3) := by decide +kernel
theorem dX12_replay_58 : decode cX12_replay 58 = .ok (.bipush (-6), 2) := by decide +kernel
theorem dX12_replay_60 : decode cX12_replay 60 = .ok (.ireturn, 1) := by decide +kernel
theorem dX12_replay_61 : decode cX12_replay 61 = .ok (.aload_n 0, 1) := by decide +kernel
theorem dX12_replay_62 : decode cX12_replay 62 = .ok (.getfield 28, 3) := by decide +kernel
theorem dX12_replay_65 : decode cX12_replay 65 = .ok (.bipush 122, 2) := by decide +kernel
theorem dX12_replay_67 : decode cX12_replay 67 = .ok (.iaload, 1) := by decide +kernel
theorem dX12_replay_68 : decode cX12_replay 68 = .ok (.bipush 16, 2) := by decide +kernel
theorem dX12_replay_70 : decode cX12_replay 70 = .ok (.if_icmp .le 6, 3) := by decide +kernel
theorem dX12_replay_73 : decode cX12_replay 73 = .ok (.bipush (-5), 2) := by decide +kernel
theorem dX12_replay_75 : decode cX12_replay 75 = .ok (.ireturn, 1) := by decide +kernel
theorem dX12_replay_76 : decode cX12_replay 76 = .ok (.aload_n 0, 1) := by decide +kernel
theorem dX12_replay_77 : decode cX12_replay 77 = .ok (.bipush 122, 2) := by decide +kernel
theorem dX12_replay_79 : decode cX12_replay 79 = .ok (.iload 4, 2) := by decide +kernel
theorem dX12_replay_81 : decode cX12_replay 81 = .ok (.invokevirtual 195, 3) := by decide +kernel
theorem dX12_replay_84 : decode cX12_replay 84 = .ok (.ifCond .eq 6, 3) := by decide +kernel
theorem dX12_replay_87 : decode cX12_replay 87 = .ok (.bipush (-8), 2) := by decide +kernel
theorem dX12_replay_89 : decode cX12_replay 89 = .ok (.ireturn, 1) := by decide +kernel
theorem dX12_replay_90 : decode cX12_replay 90 = .ok (.aload_n 0, 1) := by decide +kernel
theorem dX12_replay_91 : decode cX12_replay 91 = .ok (.iconst 1, 1) := by decide +kernel
theorem dX12_replay_92 : decode cX12_replay 92 = .ok (.putfield 186, 3) := by decide +kernel
theorem dX12_replay_95 : decode cX12_replay 95 = .ok (.aload_n 0, 1) := by decide +kernel
theorem dX12_replay_96 : decode cX12_replay 96 = .ok (.getfield 37, 3) := by decide +kernel
theorem dX12_replay_99 : decode cX12_replay 99 = .ok (.iconst 0, 1) := by decide +kernel
theorem dX12_replay_100 : decode cX12_replay 100 = .ok (.iload 4, 2) := by decide +kernel
theorem dX12_replay_102 : decode cX12_replay 102 = .ok (.iastore, 1) := by decide +kernel
theorem dX12_replay_103 : decode cX12_replay 103 = .ok (.aload_n 0, 1) := by decide +kernel
theorem dX12_replay_104 : decode cX12_replay 104 = .ok (.aload_n 0, 1) := by decide +kernel
theorem dX12_replay_105 : decode cX12_replay 105 = .ok (.getfield 22, 3) := by decide +kernel
theorem dX12_replay_108 : decode cX12_replay 108 = .ok (.iload_n 3, 1) := by decide +kernel
theorem dX12_replay_109 : decode cX12_replay 109 = .ok (.iaload, 1) := by decide +kernel
theorem dX12_replay_110 : decode cX12_replay 110 = .ok (.putfield 189, 3) := by decide +kernel
theorem dX12_replay_113 : decode cX12_replay 113 = .ok (.iconst 0, 1) := by decide +kernel
theorem dX12_replay_114 : decode cX12_replay 114 = .ok (.istore 5, 2) := by decide +kernel
theorem dX12_replay_116 : decode cX12_replay 116 = .ok (.iload 5, 2) := by decide +kernel
theorem dX12_replay_118 : decode cX12_replay 118 = .ok (.aload_n 0, 1) := by decide +kernel
theorem dX12_replay_119 : decode cX12_replay 119 = .ok (.getfield 22, 3) := by decide +kernel
theorem dX12_replay_122 : decode cX12_replay 122 = .ok (.iload_n 3, 1) := by decide +kernel
theorem dX12_replay_123 : decode cX12_replay 123 = .ok (.iaload, 1) := by decide +kernel
theorem dX12_replay_124 : decode cX12_replay 124 = .ok (.if_icmp .ge 28, 3) := by decide +kernel
theorem dX12_replay_127 : decode cX12_replay 127 = .ok (.aload_n 0, 1) := by decide +kernel
theorem dX12_replay_128 : decode cX12_replay 128 = .ok (.getfield 40, 3) := by decide +kernel
theorem dX12_replay_131 : decode cX12_replay 131 = .ok (.iload 5, 2) := by decide +kernel
theorem dX12_replay_133 : decode cX12_replay 133 = .ok (.aload_n 0, 1) := by decide +kernel
theorem dX12_replay_134 : decode cX12_replay 134 = .ok (.getfield 25, 3) := by decide +kernel
theorem dX12_replay_137 : decode cX12_replay 137 = .ok (.bipush 24, 2) := by decide +kernel
theorem dX12_replay_139 : decode cX12_replay 139 = .ok (.iload_n 3, 1) := by decide +kernel
theorem dX12_replay_140 : decode cX12_replay 140 = .ok (.imul, 1) := by decide +kernel
theorem dX12_replay_141 : decode cX12_replay 141 = .ok (.iload 5, 2) := by decide +kernel
theorem dX12_replay_143 : decode cX12_replay 143 = .ok (.iadd, 1) := by decide +kernel
theorem dX12_replay_144 : decode cX12_replay 144 = .ok (.iaload, 1) := by decide +kernel
theorem dX12_replay_145 : decode cX12_replay 145 = .ok (.iastore, 1) := by decide +kernel
theorem dX12_replay_146 : decode cX12_replay 146 = .ok (.iinc 5 1, 3) := by decide +kernel
theorem dX12_replay_149 : decode cX12_replay 149 = .ok (.goto (-33), 3) := by decide +kernel
theorem dX12_replay_152 : decode cX12_replay 152 = .ok (.aload_n 0, 1) := by decide +kernel
theorem dX12_replay_153 : decode cX12_replay 153 = .ok (.bipush 122, 2) := by decide +kernel
theorem dX12_replay_155 : decode cX12_replay 155 = .ok (.aload_n 0, 1) := by decide +kernel
theorem dX12_replay_156 : decode cX12_replay 156 = .ok (.getfield 16, 3) := by decide +kernel
theorem dX12_replay_159 : decode cX12_replay 159 = .ok (.iload_n 3, 1) := by decide +kernel
theorem dX12_replay_160 : decode cX12_replay 160 = .ok (.iaload, 1) := by decide +kernel
theorem dX12_replay_161 : decode cX12_replay 161 = .ok (.aload_n 0, 1) := by decide +kernel
theorem dX12_replay_162 : decode cX12_replay 162 = .ok (.getfield 19, 3) := by decide +kernel
theorem dX12_replay_165 : decode cX12_replay 165 = .ok (.iload_n 3, 1) := by decide +kernel
theorem dX12_replay_166 : decode cX12_replay 166 = .ok (.iaload, 1) := by decide +kernel
theorem dX12_replay_167 : decode cX12_replay 167 = .ok (.invokevirtual 350, 3) := by decide +kernel
theorem dX12_replay_170 : decode cX12_replay 170 = .ok (.istore 5, 2) := by decide +kernel
theorem dX12_replay_172 : decode cX12_replay 172 = .ok (.iload 5, 2) := by decide +kernel
theorem dX12_replay_174 : decode cX12_replay 174 = .ok (.ifCond .lt 12, 3) := by decide +kernel
theorem dX12_replay_177 : decode cX12_replay 177 = .ok (.aload_n 0, 1) := by decide +kernel
theorem dX12_replay_178 : decode cX12_replay 178 = .ok (.iload_n 1, 1) := by decide +kernel
theorem dX12_replay_179 : decode cX12_replay 179 = .ok (.iload_n 2, 1) := by decide +kernel
theorem dX12_replay_180 : decode cX12_replay 180 = .ok (.iload 5, 2) := by decide +kernel
theorem dX12_replay_182 : decode cX12_replay 182 = .ok (.iconst (-1), 1) := by decide +kernel
theorem dX12_replay_183 : decode cX12_replay 183 = .ok (.invokevirtual 359, 3) := by decide +kernel
theorem dX12_replay_186 : decode cX12_replay 186 = .ok (.iload 5, 2) := by decide +kernel
theorem dX12_replay_188 : decode cX12_replay 188 = .ok (.ireturn, 1) := by decide +kernel
noncomputable def st_replay : Nat × List Int × gM → Option ((Nat × List Int × gM) ⊕ (Int × gM))
  | (0, [x1, x2, x3, x4, x5], M) => (if 0 ≤ x3 ∧ x3 < 120 then
      (if x5 < (M 716 x3) then
        (if 0 ≤ (gw32 ((gw32 ((24 : Int) * x3)) + x5)) ∧ (gw32 ((gw32 ((24 : Int) * x3)) + x5)) < 2880 then
          (if 0 ≤ x5 ∧ x5 < 400 then
            some (.inl (0, [x1, x2, x3, x4, (gw32 (x5 + 1))], (gU M 722 x5 (M 717 (gw32 ((gw32 ((24 : Int) * x3)) + x5))))))
          else none)
        else none)
      else
        (Option.bind (F_comes M 122 (M 714 x3) (M 715 x3)) (fun p167 =>
          (if p167.1 < 0 then
            some (.inr (p167.1, p167.2))
          else
            (Option.bind (F_laysRef p167.2 x1 x2 p167.1 (-1)) (fun m183 =>
              some (.inr (p167.1, m183))))))))
    else none)
  | _ => none
theorem sk_replay_116 (k : Nat × List Int × gM → Option (Int × gM)) (M : gM) (x1 x2 x3 x4 x5 : Int) : gWk k (st_replay (0, [x1, x2, x3, x4, x5], M)) = (if 0 ≤ x3 ∧ x3 < 120 then
    (if x5 < (M 716 x3) then
      (if 0 ≤ (gw32 ((gw32 ((24 : Int) * x3)) + x5)) ∧ (gw32 ((gw32 ((24 : Int) * x3)) + x5)) < 2880 then
        (if 0 ≤ x5 ∧ x5 < 400 then
          k (0, [x1, x2, x3, x4, (gw32 (x5 + 1))], (gU M 722 x5 (M 717 (gw32 ((gw32 ((24 : Int) * x3)) + x5)))))
        else none)
      else none)
    else
      (Option.bind (F_comes M 122 (M 714 x3) (M 715 x3)) (fun p167 =>
        (if p167.1 < 0 then
          some (p167.1, p167.2)
        else
          (Option.bind (F_laysRef p167.2 x1 x2 p167.1 (-1)) (fun m183 =>
            some (p167.1, m183)))))))
  else none) := by
  simp only [st_replay, gWk_ite, gWk_bind, gWk_inl, gWk_inr, gWk_none]
noncomputable def F_replay_116 (M : gM) (x1 x2 x3 x4 x5 : Int) : Option (Int × gM) := gWh (st_replay) (0, [x1, x2, x3, x4, x5], M)
theorem eq_replay_116 (M : gM) (x1 x2 x3 x4 x5 : Int) : F_replay_116 M x1 x2 x3 x4 x5 = (if 0 ≤ x3 ∧ x3 < 120 then
    (if x5 < (M 716 x3) then
      (if 0 ≤ (gw32 ((gw32 ((24 : Int) * x3)) + x5)) ∧ (gw32 ((gw32 ((24 : Int) * x3)) + x5)) < 2880 then
        (if 0 ≤ x5 ∧ x5 < 400 then
          F_replay_116 (gU M 722 x5 (M 717 (gw32 ((gw32 ((24 : Int) * x3)) + x5)))) x1 x2 x3 x4 (gw32 (x5 + 1))
        else none)
      else none)
    else
      (Option.bind (F_comes M 122 (M 714 x3) (M 715 x3)) (fun p167 =>
        (if p167.1 < 0 then
          some (p167.1, p167.2)
        else
          (Option.bind (F_laysRef p167.2 x1 x2 p167.1 (-1)) (fun m183 =>
            some (p167.1, m183)))))))
  else none) := (gWh_eq _).trans (sk_replay_116 _ M x1 x2 x3 x4 x5)
noncomputable def F_replay (M : gM) (a1 a2 a3 : Int) : Option (Int × gM) := (Option.bind (F_isHistory a1) (fun r1 =>
    (if r1 = 0 then
      some (-1, M)
    else
      (Option.bind (F_in a2 0 25) (fun r11 =>
        (if r11 = 0 then
          some (-1, M)
        else
          (Option.bind (F_isCommit M a3) (fun r19 =>
            (if r19 = 0 then
              some (-1, M)
            else
              (Option.bind (F_branchAt M a1 a2) (fun r30 =>
                (if r30 = -1 then
                  some (-4, M)
                else
                  (Option.bind (F_laysChange M a3) (fun m46 =>
                    (Option.bind (F_changesThere m46 r30) (fun p52 =>
                      (if p52.1 = 0 then
                        some (-6, p52.2)
                      else
                        (if (16 : Int) < (p52.2 718 122) then
                          some (-5, p52.2)
                        else
                          (Option.bind (F_areLike p52.2 122 r30) (fun r81 =>
                            (if r81 = 0 then
                              (if 0 ≤ a3 ∧ a3 < 120 then
                                F_replay_116 (gU (gU (gU p52.2 711 12 1) 721 0 r30) 711 13 ((gU (gU p52.2 711 12 1) 721 0 r30) 716 a3)) a1 a2 a3 r30 0
                              else none)
                            else
                              some (-8, p52.2))))))))))))))))))))))
theorem eq_replay (M : gM) (a1 a2 a3 : Int) : F_replay M a1 a2 a3 = (Option.bind (F_isHistory a1) (fun r1 =>
    (if r1 = 0 then
      some (-1, M)
    else
      (Option.bind (F_in a2 0 25) (fun r11 =>
        (if r11 = 0 then
          some (-1, M)
        else
          (Option.bind (F_isCommit M a3) (fun r19 =>
            (if r19 = 0 then
              some (-1, M)
            else
              (Option.bind (F_branchAt M a1 a2) (fun r30 =>
                (if r30 = -1 then
                  some (-4, M)
                else
                  (Option.bind (F_laysChange M a3) (fun m46 =>
                    (Option.bind (F_changesThere m46 r30) (fun p52 =>
                      (if p52.1 = 0 then
                        some (-6, p52.2)
                      else
                        (if (16 : Int) < (p52.2 718 122) then
                          some (-5, p52.2)
                        else
                          (Option.bind (F_areLike p52.2 122 r30) (fun r81 =>
                            (if r81 = 0 then
                              (if 0 ≤ a3 ∧ a3 < 120 then
                                F_replay_116 (gU (gU (gU p52.2 711 12 1) 721 0 r30) 711 13 ((gU (gU p52.2 711 12 1) 721 0 r30) 716 a3)) a1 a2 a3 r30 0
                              else none)
                            else
                              some (-8, p52.2)))))))))))))))))))))) := rfl
theorem frp_replay : ∀ (s : Nat × List Int × gM) (b : Int × gM), gWh (st_replay) s = some b → (∀ (x1 x2 x3 x4 x5 : Int) (M : gM), s = (0, [x1, x2, x3, x4, x5], M) → gFr [712, 713, 714, 715, 716, 717, 718, 719, 720, 721, 722, 727, 728, 741, 742, 743] [0, 12, 13, 49] M b.2) := by
  refine gWh_ind (fun k hk s b h => ?_)
  · rintro x1 x2 x3 x4 x5 M rfl
    rw [sk_replay_116] at h
    obtain ⟨g1, h⟩ := gI_gd h
    rcases gI_or h with h | h
    · obtain ⟨g4, h⟩ := gI_gd h
      obtain ⟨g5, h⟩ := gI_gd h
      exact gFr_t (gFr_a (gFr_r [712, 713, 714, 715, 716, 717, 718, 719, 720, 721, 722, 727, 728, 741, 742, 743] [0, 12, 13, 49] _) (.tail _ (.tail _ (.tail _ (.tail _ (.tail _ (.tail _ (.tail _ (.tail _ (.tail _ (.tail _ (.head _))))))))))) (by decide)) ((hk _ _ h) _ _ _ _ _ _ rfl) (fun _ z => z) (fun _ z => z)
    · obtain ⟨p167, e167, h⟩ := gI_bd h
      rcases gI_or h with h | h
      · rw [← Option.some.inj h]
        exact (gFr_t (gFr_r [712, 713, 714, 715, 716, 717, 718, 719, 720, 721, 722, 727, 728, 741, 742, 743] [0, 12, 13, 49] _) (fr_comes (b := p167) e167) (by first | decide | simp) (by decide))
      · obtain ⟨m183, e183, h⟩ := gI_bd h
        rw [← Option.some.inj h]
        exact (gFr_t (gFr_t (gFr_r [712, 713, 714, 715, 716, 717, 718, 719, 720, 721, 722, 727, 728, 741, 742, 743] [0, 12, 13, 49] _) (fr_comes (b := p167) e167) (by first | decide | simp) (by decide)) (fr_laysRef (b := m183) e183) (by first | decide | simp) (by decide))
theorem fr_replay_116 {M : gM} {x1 x2 x3 x4 x5 : Int} {b : Int × gM} (h : F_replay_116 M x1 x2 x3 x4 x5 = some b) : gFr [712, 713, 714, 715, 716, 717, 718, 719, 720, 721, 722, 727, 728, 741, 742, 743] [0, 12, 13, 49] M b.2 :=
  (frp_replay _ _ h) _ _ _ _ _ _ rfl
theorem fr_replay {M : gM} {a1 a2 a3 : Int} {b : Int × gM} (h : F_replay M a1 a2 a3 = some b) : gFr [712, 713, 714, 715, 716, 717, 718, 719, 720, 721, 722, 727, 728, 741, 742, 743] [0, 12, 13, 49] M b.2 := by
  rw [eq_replay] at h
  obtain ⟨r1, e1, h⟩ := gI_bd h
  rcases gI_or h with h | h
  · rw [← Option.some.inj h]
    exact (gFr_r [712, 713, 714, 715, 716, 717, 718, 719, 720, 721, 722, 727, 728, 741, 742, 743] [0, 12, 13, 49] _)
  · obtain ⟨r11, e11, h⟩ := gI_bd h
    rcases gI_or h with h | h
    · rw [← Option.some.inj h]
      exact (gFr_r [712, 713, 714, 715, 716, 717, 718, 719, 720, 721, 722, 727, 728, 741, 742, 743] [0, 12, 13, 49] _)
    · obtain ⟨r19, e19, h⟩ := gI_bd h
      rcases gI_or h with h | h
      · rw [← Option.some.inj h]
        exact (gFr_r [712, 713, 714, 715, 716, 717, 718, 719, 720, 721, 722, 727, 728, 741, 742, 743] [0, 12, 13, 49] _)
      · obtain ⟨r30, e30, h⟩ := gI_bd h
        rcases gI_or h with h | h
        · rw [← Option.some.inj h]
          exact (gFr_r [712, 713, 714, 715, 716, 717, 718, 719, 720, 721, 722, 727, 728, 741, 742, 743] [0, 12, 13, 49] _)
        · obtain ⟨m46, e46, h⟩ := gI_bd h
          obtain ⟨p52, e52, h⟩ := gI_bd h
          rcases gI_or h with h | h
          · rw [← Option.some.inj h]
            exact (gFr_t (gFr_t (gFr_r [712, 713, 714, 715, 716, 717, 718, 719, 720, 721, 722, 727, 728, 741, 742, 743] [0, 12, 13, 49] _) (fr_laysChange (b := m46) e46) (by first | decide | simp) (by decide)) (fr_changesThere (b := p52) e52) (by first | decide | simp) (by decide))
          · rcases gI_or h with h | h
            · rw [← Option.some.inj h]
              exact (gFr_t (gFr_t (gFr_r [712, 713, 714, 715, 716, 717, 718, 719, 720, 721, 722, 727, 728, 741, 742, 743] [0, 12, 13, 49] _) (fr_laysChange (b := m46) e46) (by first | decide | simp) (by decide)) (fr_changesThere (b := p52) e52) (by first | decide | simp) (by decide))
            · obtain ⟨r81, e81, h⟩ := gI_bd h
              rcases gI_or h with h | h
              · obtain ⟨g11, h⟩ := gI_gd h
                exact gFr_t (gFr_f (gFr_a (gFr_f (gFr_t (gFr_t (gFr_r [712, 713, 714, 715, 716, 717, 718, 719, 720, 721, 722, 727, 728, 741, 742, 743] [0, 12, 13, 49] _) (fr_laysChange (b := m46) e46) (by first | decide | simp) (by decide)) (fr_changesThere (b := p52) e52) (by first | decide | simp) (by decide)) (.tail _ (.head _))) (.tail _ (.tail _ (.tail _ (.tail _ (.tail _ (.tail _ (.tail _ (.tail _ (.tail _ (.head _)))))))))) (by decide)) (.tail _ (.tail _ (.head _)))) (fr_replay_116 h) (fun _ z => z) (fun _ z => z)
              · rw [← Option.some.inj h]
                exact (gFr_t (gFr_t (gFr_r [712, 713, 714, 715, 716, 717, 718, 719, 720, 721, 722, 727, 728, 741, 742, 743] [0, 12, 13, 49] _) (fr_laysChange (b := m46) e46) (by first | decide | simp) (by decide)) (fr_changesThere (b := p52) e52) (by first | decide | simp) (by decide))
theorem okp_replay {sh : gS} : ∀ (s : Nat × List Int × gM) (b : Int × gM), gWh (st_replay) s = some b → (∀ (x1 x2 x3 x4 x5 : Int) (M : gM), s = (0, [x1, x2, x3, x4, x5], M) → gOK sh M → gA (gr 5 115) yX12_replay cX12_replay 6 (some (.int)) (gPq sh (some (0, b.1)) b.2) (0, 0) 116 [(4, 711), (0, x1), (0, x2), (0, x3), (0, x4), (0, x5)] [] sh M) := by
  refine gWh_ind (fun k hk s b h => ?_)
  · rintro x1 x2 x3 x4 x5 M rfl hOK
    rw [sk_replay_116] at h
    refine g_iload (q0 := 118) (j := 5) rfl dX12_replay_116 rfl ?_
    refine g_aload_n (q0 := 119) (j := 0) rfl dX12_replay_118 rfl ?_
    refine g_getp (q0 := 122) (b := 716) rfl ff_X12_22 dX12_replay_119 rfl hOK (by decide) (sh_711 hOK) rfl (by decide) ?_
    refine g_iload_n (q0 := 123) (j := 3) rfl dX12_replay_122 rfl ?_
    obtain ⟨g1, h⟩ := gI_gd h
    refine g_iald (q0 := 124) rfl dX12_replay_123 (sh_716 hOK) g1.1 g1.2 ?_
    refine g_icmp_ge (q0 := 127) (tgt := 152) rfl dX12_replay_124 (by decide) (fun h124 => ?_) (fun h124 => ?_)
    · replace h := gI_neg (Int.not_lt.mpr h124) h
      refine g_aload_n (q0 := 153) (j := 0) rfl dX12_replay_152 rfl ?_
      refine g_bipush (q0 := 155) rfl dX12_replay_153 (k := ?_)
      refine g_aload_n (q0 := 156) (j := 0) rfl dX12_replay_155 rfl ?_
      refine g_getp (q0 := 159) (b := 714) rfl ff_X12_16 dX12_replay_156 rfl hOK (by decide) (sh_711 hOK) rfl (by decide) ?_
      refine g_iload_n (q0 := 160) (j := 3) rfl dX12_replay_159 rfl ?_
      refine g_iald (q0 := 161) rfl dX12_replay_160 (sh_714 hOK) g1.1 g1.2 ?_
      refine g_aload_n (q0 := 162) (j := 0) rfl dX12_replay_161 rfl ?_
      refine g_getp (q0 := 165) (b := 715) rfl ff_X12_19 dX12_replay_162 rfl hOK (by decide) (sh_711 hOK) rfl (by decide) ?_
      refine g_iload_n (q0 := 166) (j := 3) rfl dX12_replay_165 rfl ?_
      refine g_iald (q0 := 167) rfl dX12_replay_166 (sh_715 hOK) g1.1 g1.2 ?_
      obtain ⟨p167, e167, h⟩ := gI_bd h
      refine g_callVq1 (as := [_, _, _]) (rest := []) mt_X12_comes mi_X12_comes se_X12_comes ml_X12_350 dX12_replay_167 (q0 := 170) rfl rfl (sh_711 hOK) rfl rfl (ok_comes hOK e167) rfl ⟨by decide, by decide⟩ (Nat.le_of_ble_eq_true rfl) ⟨Nat.zero_le _, Nat.zero_le _⟩ ?_
      have hOK2 : gOK sh p167.2 := gOK_fr hOK (fr_comes (b := p167) e167) (by first | decide | (intro a ha; simp only [List.mem_cons, List.not_mem_nil, or_false] at ha; omega)) (by decide)
      refine g_istore (q0 := 172) (j := 5) (lv2 := [_, _, _, _, _, _]) rfl dX12_replay_170 (by decide) rfl rfl ?_
      refine g_iload (q0 := 174) (j := 5) rfl dX12_replay_172 rfl ?_
      refine g_if_lt (q0 := 177) (tgt := 186) rfl dX12_replay_174 (by decide) (fun h174 => ?_) (fun h174 => ?_)
      · replace h := gI_pos h174 h
        refine g_iload (q0 := 188) (j := 5) rfl dX12_replay_186 rfl ?_
        rw [← Option.some.inj h]
        refine g_ireturn dX12_replay_188 rfl ⟨Nat.zero_le _, Nat.zero_le _⟩ ?_
        exact ⟨rfl, rfl, rfl⟩
      · replace h := gI_neg (Int.not_lt.mpr h174) h
        refine g_aload_n (q0 := 178) (j := 0) rfl dX12_replay_177 rfl ?_
        refine g_iload_n (q0 := 179) (j := 1) rfl dX12_replay_178 rfl ?_
        refine g_iload_n (q0 := 180) (j := 2) rfl dX12_replay_179 rfl ?_
        refine g_iload (q0 := 182) (j := 5) rfl dX12_replay_180 rfl ?_
        refine g_iconst (q0 := 183) rfl dX12_replay_182 (k := ?_)
        obtain ⟨m183, e183, h⟩ := gI_bd h
        refine g_callVq0 (as := [_, _, _, _]) (rest := []) mt_X12_laysRef mi_X12_laysRef se_X12_laysRef ml_X12_359 dX12_replay_183 (q0 := 186) rfl rfl (sh_711 hOK2) rfl rfl (ok_laysRef hOK2 e183) rfl ⟨by decide, by decide⟩ (Nat.le_of_ble_eq_true rfl) ⟨Nat.zero_le _, Nat.zero_le _⟩ ?_
        have hOK3 : gOK sh m183 := gOK_fr hOK2 (fr_laysRef (b := m183) e183) (by first | decide | (intro a ha; simp only [List.mem_cons, List.not_mem_nil, or_false] at ha; omega)) (by decide)
        refine g_iload (q0 := 188) (j := 5) rfl dX12_replay_186 rfl ?_
        rw [← Option.some.inj h]
        refine g_ireturn dX12_replay_188 rfl ⟨Nat.zero_le _, Nat.zero_le _⟩ ?_
        exact ⟨rfl, rfl, rfl⟩
    · replace h := gI_pos h124 h
      refine g_aload_n (q0 := 128) (j := 0) rfl dX12_replay_127 rfl ?_
      refine g_getp (q0 := 131) (b := 722) rfl ff_X12_40 dX12_replay_128 rfl hOK (by decide) (sh_711 hOK) rfl (by decide) ?_
      refine g_iload (q0 := 133) (j := 5) rfl dX12_replay_131 rfl ?_
      refine g_aload_n (q0 := 134) (j := 0) rfl dX12_replay_133 rfl ?_
      refine g_getp (q0 := 137) (b := 717) rfl ff_X12_25 dX12_replay_134 rfl hOK (by decide) (sh_711 hOK) rfl (by decide) ?_
      refine g_bipush (q0 := 139) rfl dX12_replay_137 (k := ?_)
      refine g_iload_n (q0 := 140) (j := 3) rfl dX12_replay_139 rfl ?_
      refine g_imulw (q0 := 141) rfl dX12_replay_140 ?_
      refine g_iload (q0 := 143) (j := 5) rfl dX12_replay_141 rfl ?_
      refine g_iaddw (q0 := 144) rfl dX12_replay_143 ?_
      obtain ⟨g4, h⟩ := gI_gd h
      refine g_iald (q0 := 145) rfl dX12_replay_144 (sh_717 hOK) g4.1 g4.2 ?_
      obtain ⟨g5, h⟩ := gI_gd h
      refine g_iast (q0 := 146) rfl dX12_replay_145 (sh_722 hOK) g5.1 g5.2 ?_
      have hOK6 : gOK sh (gU M 722 x5 (M 717 (gw32 ((gw32 ((24 : Int) * x3)) + x5)))) := gOK_i hOK (sh_722 hOK)
      refine g_iincw (q0 := 149) (lv2 := [_, _, _, _, _, _]) rfl dX12_replay_146 rfl (by decide) rfl rfl ?_
      refine g_goto (tgt := 116) dX12_replay_149 (by decide) ?_
      exact (hk _ _ h) _ _ _ _ _ _ rfl hOK6
theorem ok_replay_116 {sh : gS} {M : gM} {x1 x2 x3 x4 x5 : Int} {b : Int × gM} (hOK : gOK sh M) (h : F_replay_116 M x1 x2 x3 x4 x5 = some b) : gA (gr 5 115) yX12_replay cX12_replay 6 (some (.int)) (gPq sh (some (0, b.1)) b.2) (0, 0) 116 [(4, 711), (0, x1), (0, x2), (0, x3), (0, x4), (0, x5)] [] sh M :=
  (okp_replay _ _ h) _ _ _ _ _ _ rfl hOK
theorem ok_replay {sh : gS} {M : gM} {a1 a2 a3 : Int} {b : Int × gM} (hOK : gOK sh M) (h : F_replay M a1 a2 a3 = some b) : gC (gr 5 115) yX12_replay cX12_replay 6 (some (.int)) [(4, 711), (0, a1), (0, a2), (0, a3)] sh M (gPq sh (some (0, b.1)) b.2) := by
  rw [eq_replay] at h
  refine gC_ofA (lv := [_, _, _, _, _, _]) (by decide +kernel) (Nat.le_of_ble_eq_true rfl) rfl (fun hMw hav => ?_)
  refine g_iload_n (q0 := 1) (j := 1) rfl dX12_replay_0 rfl ?_
  obtain ⟨r1, e1, h⟩ := gI_bd h
  refine g_callSq1 (as := [_]) (rest := []) mt_X12_isHistory ms_X12_isHistory ml_X12_353 dX12_replay_1 (q0 := 4) rfl rfl (ok_isHistory hOK e1) rfl ⟨by decide, by decide⟩ (Nat.le_of_ble_eq_true rfl) ⟨Nat.zero_le _, Nat.zero_le _⟩ ?_
  refine g_if_eq (q0 := 7) (tgt := 25) rfl dX12_replay_4 (by decide) (fun h4 => ?_) (fun h4 => ?_)
  · replace h := gI_pos h4 h
    refine g_iconst (q0 := 26) rfl dX12_replay_25 (k := ?_)
    rw [← Option.some.inj h]
    refine g_ireturn dX12_replay_26 rfl ⟨Nat.zero_le _, Nat.zero_le _⟩ ?_
    exact ⟨rfl, rfl, rfl⟩
  · replace h := gI_neg h4 h
    refine g_iload_n (q0 := 8) (j := 2) rfl dX12_replay_7 rfl ?_
    refine g_iconst (q0 := 9) rfl dX12_replay_8 (k := ?_)
    refine g_bipush (q0 := 11) rfl dX12_replay_9 (k := ?_)
    obtain ⟨r11, e11, h⟩ := gI_bd h
    refine g_callSq1 (as := [_, _, _]) (rest := []) mt_X12_in ms_X12_in ml_X12_182 dX12_replay_11 (q0 := 14) rfl rfl (ok_in hOK e11) rfl ⟨by decide, by decide⟩ (Nat.le_of_ble_eq_true rfl) ⟨Nat.zero_le _, Nat.zero_le _⟩ ?_
    refine g_if_eq (q0 := 17) (tgt := 25) rfl dX12_replay_14 (by decide) (fun h14 => ?_) (fun h14 => ?_)
    · replace h := gI_pos h14 h
      refine g_iconst (q0 := 26) rfl dX12_replay_25 (k := ?_)
      rw [← Option.some.inj h]
      refine g_ireturn dX12_replay_26 rfl ⟨Nat.zero_le _, Nat.zero_le _⟩ ?_
      exact ⟨rfl, rfl, rfl⟩
    · replace h := gI_neg h14 h
      refine g_aload_n (q0 := 18) (j := 0) rfl dX12_replay_17 rfl ?_
      refine g_iload_n (q0 := 19) (j := 3) rfl dX12_replay_18 rfl ?_
      obtain ⟨r19, e19, h⟩ := gI_bd h
      refine g_callVq1 (as := [_]) (rest := []) mt_X12_isCommit mi_X12_isCommit se_X12_isCommit ml_X12_229 dX12_replay_19 (q0 := 22) rfl rfl (sh_711 hOK) rfl rfl (ok_isCommit hOK e19) rfl ⟨by decide, by decide⟩ (Nat.le_of_ble_eq_true rfl) ⟨Nat.zero_le _, Nat.zero_le _⟩ ?_
      refine g_if_ne (q0 := 25) (tgt := 27) rfl dX12_replay_22 (by decide) (fun h22 => ?_) (fun h22 => ?_)
      · replace h := gI_neg h22 h
        refine g_aload_n (q0 := 28) (j := 0) rfl dX12_replay_27 rfl ?_
        refine g_iload_n (q0 := 29) (j := 1) rfl dX12_replay_28 rfl ?_
        refine g_iload_n (q0 := 30) (j := 2) rfl dX12_replay_29 rfl ?_
        obtain ⟨r30, e30, h⟩ := gI_bd h
        refine g_callVq1 (as := [_, _]) (rest := []) mt_X12_branchAt mi_X12_branchAt se_X12_branchAt ml_X12_638 dX12_replay_30 (q0 := 33) rfl rfl (sh_711 hOK) rfl rfl (ok_branchAt hOK e30) rfl ⟨by decide, by decide⟩ (Nat.le_of_ble_eq_true rfl) ⟨Nat.zero_le _, Nat.zero_le _⟩ ?_
        refine g_istore (q0 := 35) (j := 4) (lv2 := [_, _, _, _, _, _]) rfl dX12_replay_33 (by decide) rfl rfl ?_
        refine g_iload (q0 := 37) (j := 4) rfl dX12_replay_35 rfl ?_
        refine g_iconst (q0 := 38) rfl dX12_replay_37 (k := ?_)
        refine g_icmp_ne (q0 := 41) (tgt := 44) rfl dX12_replay_38 (by decide) (fun h38 => ?_) (fun h38 => ?_)
        · replace h := gI_neg h38 h
          refine g_aload_n (q0 := 45) (j := 0) rfl dX12_replay_44 rfl ?_
          refine g_iload_n (q0 := 46) (j := 3) rfl dX12_replay_45 rfl ?_
          obtain ⟨m46, e46, h⟩ := gI_bd h
          refine g_callVq0 (as := [_]) (rest := []) mt_X12_laysChange mi_X12_laysChange se_X12_laysChange ml_X12_653 dX12_replay_46 (q0 := 49) rfl rfl (sh_711 hOK) rfl rfl (ok_laysChange hOK e46) rfl ⟨by decide, by decide⟩ (Nat.le_of_ble_eq_true rfl) ⟨Nat.zero_le _, Nat.zero_le _⟩ ?_
          have hOK7 : gOK sh m46 := gOK_fr hOK (fr_laysChange (b := m46) e46) (by first | decide | (intro a ha; simp only [List.mem_cons, List.not_mem_nil, or_false] at ha; omega)) (by decide)
          refine g_aload_n (q0 := 50) (j := 0) rfl dX12_replay_49 rfl ?_
          refine g_iload (q0 := 52) (j := 4) rfl dX12_replay_50 rfl ?_
          obtain ⟨p52, e52, h⟩ := gI_bd h
          refine g_callVq1 (as := [_]) (rest := []) mt_X12_changesThere mi_X12_changesThere se_X12_changesThere ml_X12_656 dX12_replay_52 (q0 := 55) rfl rfl (sh_711 hOK7) rfl rfl (ok_changesThere hOK7 e52) rfl ⟨by decide, by decide⟩ (Nat.le_of_ble_eq_true rfl) ⟨Nat.zero_le _, Nat.zero_le _⟩ ?_
          have hOK8 : gOK sh p52.2 := gOK_fr hOK7 (fr_changesThere (b := p52) e52) (by first | decide | (intro a ha; simp only [List.mem_cons, List.not_mem_nil, or_false] at ha; omega)) (by decide)
          refine g_if_ne (q0 := 58) (tgt := 61) rfl dX12_replay_55 (by decide) (fun h55 => ?_) (fun h55 => ?_)
          · replace h := gI_neg h55 h
            refine g_aload_n (q0 := 62) (j := 0) rfl dX12_replay_61 rfl ?_
            refine g_getp (q0 := 65) (b := 718) rfl ff_X12_28 dX12_replay_62 rfl hOK8 (by decide) (sh_711 hOK8) rfl (by decide) ?_
            refine g_bipush (q0 := 67) rfl dX12_replay_65 (k := ?_)
            refine g_iald (q0 := 68) rfl dX12_replay_67 (sh_718 hOK8) (by decide) (by decide) ?_
            refine g_bipush (q0 := 70) rfl dX12_replay_68 (k := ?_)
            refine g_icmp_le (q0 := 73) (tgt := 76) rfl dX12_replay_70 (by decide) (fun h70 => ?_) (fun h70 => ?_)
            · replace h := gI_neg (Int.not_lt.mpr h70) h
              refine g_aload_n (q0 := 77) (j := 0) rfl dX12_replay_76 rfl ?_
              refine g_bipush (q0 := 79) rfl dX12_replay_77 (k := ?_)
              refine g_iload (q0 := 81) (j := 4) rfl dX12_replay_79 rfl ?_
              obtain ⟨r81, e81, h⟩ := gI_bd h
              refine g_callVq1 (as := [_, _]) (rest := []) mt_X12_areLike mi_X12_areLike se_X12_areLike ml_X12_195 dX12_replay_81 (q0 := 84) rfl rfl (sh_711 hOK8) rfl rfl (ok_areLike hOK8 e81) rfl ⟨by decide, by decide⟩ (Nat.le_of_ble_eq_true rfl) ⟨Nat.zero_le _, Nat.zero_le _⟩ ?_
              refine g_if_eq (q0 := 87) (tgt := 90) rfl dX12_replay_84 (by decide) (fun h84 => ?_) (fun h84 => ?_)
              · replace h := gI_pos h84 h
                refine g_aload_n (q0 := 91) (j := 0) rfl dX12_replay_90 rfl ?_
                refine g_iconst (q0 := 92) rfl dX12_replay_91 (k := ?_)
                refine g_put (q0 := 95) (t := 0) (fi := 12) rfl rfl ff_X12_186 dX12_replay_92 rfl (sh_711 hOK8) rfl (fun _ => ⟨rfl, rfl⟩) ?_
                have hOK9 : gOK sh (gU p52.2 711 12 1) := gOK_o hOK8 (sh_711 hOK8) (f := 12) rfl rfl
                refine g_aload_n (q0 := 96) (j := 0) rfl dX12_replay_95 rfl ?_
                refine g_getp (q0 := 99) (b := 721) rfl ff_X12_37 dX12_replay_96 rfl hOK9 (by decide) (sh_711 hOK9) rfl (by decide) ?_
                refine g_iconst (q0 := 100) rfl dX12_replay_99 (k := ?_)
                refine g_iload (q0 := 102) (j := 4) rfl dX12_replay_100 rfl ?_
                refine g_iast (q0 := 103) rfl dX12_replay_102 (sh_721 hOK9) (by decide) (by decide) ?_
                have hOK10 : gOK sh (gU (gU p52.2 711 12 1) 721 0 r30) := gOK_i hOK9 (sh_721 hOK9)
                refine g_aload_n (q0 := 104) (j := 0) rfl dX12_replay_103 rfl ?_
                refine g_aload_n (q0 := 105) (j := 0) rfl dX12_replay_104 rfl ?_
                refine g_getp (q0 := 108) (b := 716) rfl ff_X12_22 dX12_replay_105 rfl hOK10 (by decide) (sh_711 hOK10) rfl (by decide) ?_
                refine g_iload_n (q0 := 109) (j := 3) rfl dX12_replay_108 rfl ?_
                obtain ⟨g11, h⟩ := gI_gd h
                refine g_iald (q0 := 110) rfl dX12_replay_109 (sh_716 hOK10) g11.1 g11.2 ?_
                refine g_put (q0 := 113) (t := 0) (fi := 13) rfl rfl ff_X12_189 dX12_replay_110 rfl (sh_711 hOK10) rfl (fun _ => ⟨rfl, rfl⟩) ?_
                have hOK12 : gOK sh (gU (gU (gU p52.2 711 12 1) 721 0 r30) 711 13 ((gU (gU p52.2 711 12 1) 721 0 r30) 716 a3)) := gOK_o hOK10 (sh_711 hOK10) (f := 13) rfl rfl
                refine g_iconst (q0 := 114) rfl dX12_replay_113 (k := ?_)
                refine g_istore (q0 := 116) (j := 5) (lv2 := [_, _, _, _, _, _]) rfl dX12_replay_114 (by decide) rfl rfl ?_
                exact ok_replay_116 hOK12 h
              · replace h := gI_neg h84 h
                refine g_bipush (q0 := 89) rfl dX12_replay_87 (k := ?_)
                rw [← Option.some.inj h]
                refine g_ireturn dX12_replay_89 rfl ⟨Nat.zero_le _, Nat.zero_le _⟩ ?_
                exact ⟨rfl, rfl, rfl⟩
            · replace h := gI_pos h70 h
              refine g_bipush (q0 := 75) rfl dX12_replay_73 (k := ?_)
              rw [← Option.some.inj h]
              refine g_ireturn dX12_replay_75 rfl ⟨Nat.zero_le _, Nat.zero_le _⟩ ?_
              exact ⟨rfl, rfl, rfl⟩
          · replace h := gI_pos h55 h
            refine g_bipush (q0 := 60) rfl dX12_replay_58 (k := ?_)
            rw [← Option.some.inj h]
            refine g_ireturn dX12_replay_60 rfl ⟨Nat.zero_le _, Nat.zero_le _⟩ ?_
            exact ⟨rfl, rfl, rfl⟩
        · replace h := gI_pos h38 h
          refine g_bipush (q0 := 43) rfl dX12_replay_41 (k := ?_)
          rw [← Option.some.inj h]
          refine g_ireturn dX12_replay_43 rfl ⟨Nat.zero_le _, Nat.zero_le _⟩ ?_
          exact ⟨rfl, rfl, rfl⟩
      · replace h := gI_pos h22 h
        refine g_iconst (q0 := 26) rfl dX12_replay_25 (k := ?_)
        rw [← Option.some.inj h]
        refine g_ireturn dX12_replay_26 rfl ⟨Nat.zero_le _, Nat.zero_le _⟩ ?_
        exact ⟨rfl, rfl, rfl⟩
-- ==== marksHistory
theorem dX12_marksHistory_0 : decode cX12_marksHistory 0 = .ok (.aload_n 2, 1) := by decide +kernel
theorem dX12_marksHistory_1 : decode cX12_marksHistory 1 = .ok (.invokestatic 206, 3) := by decide +kernel
theorem dX12_marksHistory_4 : decode cX12_marksHistory 4 = .ok (.iconst 0, 1) := by decide +kernel
theorem dX12_marksHistory_5 : decode cX12_marksHistory 5 = .ok (.istore_n 3, 1) := by decide +kernel
theorem dX12_marksHistory_6 : decode cX12_marksHistory 6 = .ok (.iload_n 3, 1) := by decide +kernel
theorem dX12_marksHistory_7 : decode cX12_marksHistory 7 = .ok (.bipush 52, 2) := by decide +kernel
theorem dX12_marksHistory_9 : decode cX12_marksHistory 9 = .ok (.if_icmp .ge 38, 3) := by decide +kernel
theorem dX12_marksHistory_12 : decode cX12_marksHistory 12 = .ok (.aload_n 0, 1) := by decide +kernel
theorem dX12_marksHistory_13 : decode cX12_marksHistory 13 = .ok (.getfield 57, 3) := by decide +kernel
theorem dX12_marksHistory_16 : decode cX12_marksHistory 16 = .ok (.bipush 52, 2) := by decide +kernel
theorem dX12_marksHistory_18 : decode cX12_marksHistory 18 = .ok (.iload_n 1, 1) := by decide +kernel
theorem dX12_marksHistory_19 : decode cX12_marksHistory 19 = .ok (.imul, 1) := by decide +kernel
theorem dX12_marksHistory_20 : decode cX12_marksHistory 20 = .ok (.iload_n 3, 1) := by decide +kernel
theorem dX12_marksHistory_21 : decode cX12_marksHistory 21 = .ok (.iadd, 1) := by decide +kernel
theorem dX12_marksHistory_22 : decode cX12_marksHistory 22 = .ok (.iaload, 1) := by decide +kernel
theorem dX12_marksHistory_23 : decode cX12_marksHistory 23 = .ok (.iconst (-1), 1) := by decide +kernel
theorem dX12_marksHistory_24 : decode cX12_marksHistory 24 = .ok (.if_icmp .eq 17, 3) := by decide +kernel
theorem dX12_marksHistory_27 : decode cX12_marksHistory 27 = .ok (.aload_n 2, 1) := by decide +kernel
theorem dX12_marksHistory_28 : decode cX12_marksHistory 28 = .ok (.aload_n 0, 1) := by decide +kernel
theorem dX12_marksHistory_29 : decode cX12_marksHistory 29 = .ok (.getfield 57, 3) := by decide +kernel
theorem dX12_marksHistory_32 : decode cX12_marksHistory 32 = .ok (.bipush 52, 2) := by decide +kernel
theorem dX12_marksHistory_34 : decode cX12_marksHistory 34 = .ok (.iload_n 1, 1) := by decide +kernel
theorem dX12_marksHistory_35 : decode cX12_marksHistory 35 = .ok (.imul, 1) := by decide +kernel
theorem dX12_marksHistory_36 : decode cX12_marksHistory 36 = .ok (.iload_n 3, 1) := by decide +kernel
theorem dX12_marksHistory_37 : decode cX12_marksHistory 37 = .ok (.iadd, 1) := by decide +kernel
theorem dX12_marksHistory_38 : decode cX12_marksHistory 38 = .ok (.iaload, 1) := by decide +kernel
theorem dX12_marksHistory_39 : decode cX12_marksHistory 39 = .ok (.iconst 1, 1) := by decide +kernel
theorem dX12_marksHistory_40 : decode cX12_marksHistory 40 = .ok (.bastore, 1) := by decide +kernel
theorem dX12_marksHistory_41 : decode cX12_marksHistory 41 = .ok (.iinc 3 1, 3) := by decide +kernel
theorem dX12_marksHistory_44 : decode cX12_marksHistory 44 = .ok (.goto (-38), 3) := by decide +kernel
theorem dX12_marksHistory_47 : decode cX12_marksHistory 47 = .ok (.aload_n 0, 1) := by decide +kernel
theorem dX12_marksHistory_48 : decode cX12_marksHistory 48 = .ok (.aload_n 2, 1) := by decide +kernel
theorem dX12_marksHistory_49 : decode cX12_marksHistory 49 = .ok (.invokevirtual 210, 3) := by decide +kernel
theorem dX12_marksHistory_52 : decode cX12_marksHistory 52 = .ok (.return_, 1) := by decide +kernel
noncomputable def st_marksHistory : Nat × List Int × gM → Option ((Nat × List Int × gM) ⊕ (gM))
  | (0, [x1, a2, x3], M) => (if gRw a2 then
      (if x3 < 52 then
        (if 0 ≤ (gw32 ((gw32 ((52 : Int) * x1)) + x3)) ∧ (gw32 ((gw32 ((52 : Int) * x1)) + x3)) < 208 then
          (if (M 727 (gw32 ((gw32 ((52 : Int) * x1)) + x3))) = -1 then
            some (.inl (0, [x1, a2, (gw32 (x3 + 1))], M))
          else
            (if 0 ≤ (M 727 (gw32 ((gw32 ((52 : Int) * x1)) + x3))) ∧ (M 727 (gw32 ((gw32 ((52 : Int) * x1)) + x3))) < 120 then
              some (.inl (0, [x1, a2, (gw32 (x3 + 1))], (gU M a2 (M 727 (gw32 ((gw32 ((52 : Int) * x1)) + x3))) 1)))
            else none))
        else none)
      else
        (Option.bind (F_walksBack M a2) (fun m49 =>
          some (.inr m49))))
    else none)
  | _ => none
theorem sk_marksHistory_6 (k : Nat × List Int × gM → Option (gM)) (M : gM) (x1 a2 x3 : Int) : gWk k (st_marksHistory (0, [x1, a2, x3], M)) = (if gRw a2 then
    (if x3 < 52 then
      (if 0 ≤ (gw32 ((gw32 ((52 : Int) * x1)) + x3)) ∧ (gw32 ((gw32 ((52 : Int) * x1)) + x3)) < 208 then
        (if (M 727 (gw32 ((gw32 ((52 : Int) * x1)) + x3))) = -1 then
          k (0, [x1, a2, (gw32 (x3 + 1))], M)
        else
          (if 0 ≤ (M 727 (gw32 ((gw32 ((52 : Int) * x1)) + x3))) ∧ (M 727 (gw32 ((gw32 ((52 : Int) * x1)) + x3))) < 120 then
            k (0, [x1, a2, (gw32 (x3 + 1))], (gU M a2 (M 727 (gw32 ((gw32 ((52 : Int) * x1)) + x3))) 1))
          else none))
      else none)
    else
      (Option.bind (F_walksBack M a2) (fun m49 =>
        some m49)))
  else none) := by
  simp only [st_marksHistory, gWk_ite, gWk_bind, gWk_inl, gWk_inr, gWk_none]
noncomputable def F_marksHistory_6 (M : gM) (x1 a2 x3 : Int) : Option (gM) := gWh (st_marksHistory) (0, [x1, a2, x3], M)
theorem eq_marksHistory_6 (M : gM) (x1 a2 x3 : Int) : F_marksHistory_6 M x1 a2 x3 = (if gRw a2 then
    (if x3 < 52 then
      (if 0 ≤ (gw32 ((gw32 ((52 : Int) * x1)) + x3)) ∧ (gw32 ((gw32 ((52 : Int) * x1)) + x3)) < 208 then
        (if (M 727 (gw32 ((gw32 ((52 : Int) * x1)) + x3))) = -1 then
          F_marksHistory_6 M x1 a2 (gw32 (x3 + 1))
        else
          (if 0 ≤ (M 727 (gw32 ((gw32 ((52 : Int) * x1)) + x3))) ∧ (M 727 (gw32 ((gw32 ((52 : Int) * x1)) + x3))) < 120 then
            F_marksHistory_6 (gU M a2 (M 727 (gw32 ((gw32 ((52 : Int) * x1)) + x3))) 1) x1 a2 (gw32 (x3 + 1))
          else none))
      else none)
    else
      (Option.bind (F_walksBack M a2) (fun m49 =>
        some m49)))
  else none) := (gWh_eq _).trans (sk_marksHistory_6 _ M x1 a2 x3)
noncomputable def F_marksHistory (M : gM) (a1 a2 : Int) : Option (gM) := (if gRw a2 then
    (Option.bind (F_clears M a2) (fun m1 =>
      F_marksHistory_6 m1 a1 a2 0))
  else none)
theorem eq_marksHistory (M : gM) (a1 a2 : Int) : F_marksHistory M a1 a2 = (if gRw a2 then
    (Option.bind (F_clears M a2) (fun m1 =>
      F_marksHistory_6 m1 a1 a2 0))
  else none) := rfl
theorem frp_marksHistory : ∀ (s : Nat × List Int × gM) (b : gM), gWh (st_marksHistory) s = some b → (∀ (x1 a2 x3 : Int) (M : gM), s = (0, [x1, a2, x3], M) → gFr [a2] [] M b) := by
  refine gWh_ind (fun k hk s b h => ?_)
  · rintro x1 a2 x3 M rfl
    rw [sk_marksHistory_6] at h
    obtain ⟨gr_a2, h⟩ := gI_gd h
    rcases gI_or h with h | h
    · obtain ⟨g2, h⟩ := gI_gd h
      rcases gI_or h with h | h
      · exact gFr_t (gFr_r [a2] [] _ (by simp; omega)) ((hk _ _ h) _ _ _ _ rfl) (fun _ z => z) (fun _ z => z)
      · obtain ⟨g3, h⟩ := gI_gd h
        exact gFr_t (gFr_a (gFr_r [a2] [] _ (by simp; omega)) (.head _) (by omega)) ((hk _ _ h) _ _ _ _ rfl) (fun _ z => z) (fun _ z => z)
    · obtain ⟨m49, e49, h⟩ := gI_bd h
      rw [← Option.some.inj h]
      exact (gFr_t (gFr_r [a2] [] _ (by simp; omega)) (fr_walksBack (b := m49) e49) (by first | decide | simp) (by decide))
theorem fr_marksHistory_6 {M : gM} {x1 a2 x3 : Int} {b : gM} (h : F_marksHistory_6 M x1 a2 x3 = some b) : gFr [a2] [] M b :=
  (frp_marksHistory _ _ h) _ _ _ _ rfl
theorem fr_marksHistory {M : gM} {a1 a2 : Int} {b : gM} (h : F_marksHistory M a1 a2 = some b) : gFr [a2] [] M b := by
  rw [eq_marksHistory] at h
  obtain ⟨gr_a2, h⟩ := gI_gd h
  obtain ⟨m1, e1, h⟩ := gI_bd h
  exact gFr_t (gFr_t (gFr_r [a2] [] _ (by simp; omega)) (fr_clears (b := m1) e1) (by first | decide | simp) (by decide)) (fr_marksHistory_6 h) (fun _ z => z) (fun _ z => z)
theorem okp_marksHistory {sh : gS} : ∀ (s : Nat × List Int × gM) (b : gM), gWh (st_marksHistory) s = some b → (∀ (x1 a2 x3 : Int) (M : gM), s = (0, [x1, a2, x3], M) → gOK sh M → gA (gr 2 45) yX12_marksHistory cX12_marksHistory 4 none (gPq sh none b) (0, 0) 6 [(4, 711), (0, x1), (4, a2), (0, x3)] [] sh M) := by
  refine gWh_ind (fun k hk s b h => ?_)
  · rintro x1 a2 x3 M rfl hOK
    rw [sk_marksHistory_6] at h
    obtain ⟨gr_a2, h⟩ := gI_gd h
    refine g_iload_n (q0 := 7) (j := 3) rfl dX12_marksHistory_6 rfl ?_
    refine g_bipush (q0 := 9) rfl dX12_marksHistory_7 (k := ?_)
    refine g_icmp_ge (q0 := 12) (tgt := 47) rfl dX12_marksHistory_9 (by decide) (fun h9 => ?_) (fun h9 => ?_)
    · replace h := gI_neg (Int.not_lt.mpr h9) h
      refine g_aload_n (q0 := 48) (j := 0) rfl dX12_marksHistory_47 rfl ?_
      refine g_aload_n (q0 := 49) (j := 2) rfl dX12_marksHistory_48 rfl ?_
      obtain ⟨m49, e49, h⟩ := gI_bd h
      refine g_callVq0 (as := [_]) (rest := []) mt_X12_walksBack mi_X12_walksBack se_X12_walksBack ml_X12_210 dX12_marksHistory_49 (q0 := 52) rfl rfl (sh_711 hOK) rfl rfl (ok_walksBack hOK e49) rfl ⟨by decide, by decide⟩ (Nat.le_of_ble_eq_true rfl) ⟨Nat.zero_le _, Nat.zero_le _⟩ ?_
      have hOK1 : gOK sh m49 := gOK_fr hOK (fr_walksBack (b := m49) e49) (by first | decide | (intro a ha; simp only [List.mem_cons, List.not_mem_nil, or_false] at ha; omega)) (by decide)
      rw [← Option.some.inj h]
      refine g_return dX12_marksHistory_52 rfl ⟨Nat.zero_le _, Nat.zero_le _⟩ ?_
      exact ⟨rfl, rfl, rfl⟩
    · replace h := gI_pos h9 h
      refine g_aload_n (q0 := 13) (j := 0) rfl dX12_marksHistory_12 rfl ?_
      refine g_getp (q0 := 16) (b := 727) rfl ff_X12_57 dX12_marksHistory_13 rfl hOK (by decide) (sh_711 hOK) rfl (by decide) ?_
      refine g_bipush (q0 := 18) rfl dX12_marksHistory_16 (k := ?_)
      refine g_iload_n (q0 := 19) (j := 1) rfl dX12_marksHistory_18 rfl ?_
      refine g_imulw (q0 := 20) rfl dX12_marksHistory_19 ?_
      refine g_iload_n (q0 := 21) (j := 3) rfl dX12_marksHistory_20 rfl ?_
      refine g_iaddw (q0 := 22) rfl dX12_marksHistory_21 ?_
      obtain ⟨g2, h⟩ := gI_gd h
      refine g_iald (q0 := 23) rfl dX12_marksHistory_22 (sh_727 hOK) g2.1 g2.2 ?_
      refine g_iconst (q0 := 24) rfl dX12_marksHistory_23 (k := ?_)
      refine g_icmp_eq (q0 := 27) (tgt := 41) rfl dX12_marksHistory_24 (by decide) (fun h24 => ?_) (fun h24 => ?_)
      · replace h := gI_pos h24 h
        refine g_iincw (q0 := 44) (lv2 := [_, _, _, _]) rfl dX12_marksHistory_41 rfl (by decide) rfl rfl ?_
        refine g_goto (tgt := 6) dX12_marksHistory_44 (by decide) ?_
        exact (hk _ _ h) _ _ _ _ rfl hOK
      · replace h := gI_neg h24 h
        refine g_aload_n (q0 := 28) (j := 2) rfl dX12_marksHistory_27 rfl ?_
        refine g_aload_n (q0 := 29) (j := 0) rfl dX12_marksHistory_28 rfl ?_
        refine g_getp (q0 := 32) (b := 727) rfl ff_X12_57 dX12_marksHistory_29 rfl hOK (by decide) (sh_711 hOK) rfl (by decide) ?_
        refine g_bipush (q0 := 34) rfl dX12_marksHistory_32 (k := ?_)
        refine g_iload_n (q0 := 35) (j := 1) rfl dX12_marksHistory_34 rfl ?_
        refine g_imulw (q0 := 36) rfl dX12_marksHistory_35 ?_
        refine g_iload_n (q0 := 37) (j := 3) rfl dX12_marksHistory_36 rfl ?_
        refine g_iaddw (q0 := 38) rfl dX12_marksHistory_37 ?_
        refine g_iald (q0 := 39) rfl dX12_marksHistory_38 (sh_727 hOK) g2.1 g2.2 ?_
        refine g_iconst (q0 := 40) rfl dX12_marksHistory_39 (k := ?_)
        obtain ⟨g3, h⟩ := gI_gd h
        refine g_zast (q0 := 41) rfl dX12_marksHistory_40 (gRw_sh hOK gr_a2) g3.1 g3.2 (Or.inr rfl) ?_
        have hOK4 : gOK sh (gU M a2 (M 727 (gw32 ((gw32 ((52 : Int) * x1)) + x3))) 1) := gOK_z hOK (gRw_sh hOK gr_a2)
        refine g_iincw (q0 := 44) (lv2 := [_, _, _, _]) rfl dX12_marksHistory_41 rfl (by decide) rfl rfl ?_
        refine g_goto (tgt := 6) dX12_marksHistory_44 (by decide) ?_
        exact (hk _ _ h) _ _ _ _ rfl hOK4
theorem ok_marksHistory_6 {sh : gS} {M : gM} {x1 a2 x3 : Int} {b : gM} (hOK : gOK sh M) (h : F_marksHistory_6 M x1 a2 x3 = some b) : gA (gr 2 45) yX12_marksHistory cX12_marksHistory 4 none (gPq sh none b) (0, 0) 6 [(4, 711), (0, x1), (4, a2), (0, x3)] [] sh M :=
  (okp_marksHistory _ _ h) _ _ _ _ rfl hOK
theorem ok_marksHistory {sh : gS} {M : gM} {a1 a2 : Int} {b : gM} (hOK : gOK sh M) (h : F_marksHistory M a1 a2 = some b) : gC (gr 2 45) yX12_marksHistory cX12_marksHistory 4 none [(4, 711), (0, a1), (4, a2)] sh M (gPq sh none b) := by
  rw [eq_marksHistory] at h
  refine gC_ofA (lv := [_, _, _, _]) (by decide +kernel) (Nat.le_of_ble_eq_true rfl) rfl (fun hMw hav => ?_)
  obtain ⟨gr_a2, h⟩ := gI_gd h
  refine g_aload_n (q0 := 1) (j := 2) rfl dX12_marksHistory_0 rfl ?_
  obtain ⟨m1, e1, h⟩ := gI_bd h
  refine g_callSq0 (as := [_]) (rest := []) mt_X12_clears ms_X12_clears ml_X12_206 dX12_marksHistory_1 (q0 := 4) rfl rfl (ok_clears hOK e1) rfl ⟨by decide, by decide⟩ (Nat.le_of_ble_eq_true rfl) ⟨Nat.zero_le _, Nat.zero_le _⟩ ?_
  have hOK5 : gOK sh m1 := gOK_fr hOK (fr_clears (b := m1) e1) (by first | decide | (intro a ha; simp only [List.mem_cons, List.not_mem_nil, or_false] at ha; omega)) (by decide)
  refine g_iconst (q0 := 5) rfl dX12_marksHistory_4 (k := ?_)
  refine g_istore_n (q0 := 6) (j := 3) (lv2 := [_, _, _, _]) rfl dX12_marksHistory_5 (by decide) rfl rfl ?_
  exact ok_marksHistory_6 hOK5 h
-- ==== picked
theorem dX12_picked_0 : decode cX12_picked 0 = .ok (.iload_n 1, 1) := by decide +kernel
theorem dX12_picked_1 : decode cX12_picked 1 = .ok (.invokestatic 353, 3) := by decide +kernel
theorem dX12_picked_4 : decode cX12_picked 4 = .ok (.ifCond .eq 11, 3) := by decide +kernel
theorem dX12_picked_7 : decode cX12_picked 7 = .ok (.aload_n 0, 1) := by decide +kernel
theorem dX12_picked_8 : decode cX12_picked 8 = .ok (.iload_n 2, 1) := by decide +kernel
theorem dX12_picked_9 : decode cX12_picked 9 = .ok (.invokevirtual 229, 3) := by decide +kernel
theorem dX12_picked_12 : decode cX12_picked 12 = .ok (.ifCond .ne 5, 3) := by decide +kernel
theorem dX12_picked_15 : decode cX12_picked 15 = .ok (.iconst (-1), 1) := by decide +kernel
theorem dX12_picked_16 : decode cX12_picked 16 = .ok (.ireturn, 1) := by decide +kernel
theorem dX12_picked_17 : decode cX12_picked 17 = .ok (.aload_n 0, 1) := by decide +kernel
theorem dX12_picked_18 : decode cX12_picked 18 = .ok (.iload_n 2, 1) := by decide +kernel
theorem dX12_picked_19 : decode cX12_picked 19 = .ok (.invokevirtual 653, 3) := by decide +kernel
theorem dX12_picked_22 : decode cX12_picked 22 = .ok (.aload_n 0, 1) := by decide +kernel
theorem dX12_picked_23 : decode cX12_picked 23 = .ok (.getfield 644, 3) := by decide +kernel
theorem dX12_picked_26 : decode cX12_picked 26 = .ok (.istore_n 3, 1) := by decide +kernel
theorem dX12_picked_27 : decode cX12_picked 27 = .ok (.iconst 0, 1) := by decide +kernel
theorem dX12_picked_28 : decode cX12_picked 28 = .ok (.istore 4, 2) := by decide +kernel
theorem dX12_picked_30 : decode cX12_picked 30 = .ok (.iload 4, 2) := by decide +kernel
theorem dX12_picked_32 : decode cX12_picked 32 = .ok (.iload_n 3, 1) := by decide +kernel
theorem dX12_picked_33 : decode cX12_picked 33 = .ok (.if_icmp .ge 37, 3) := by decide +kernel
theorem dX12_picked_36 : decode cX12_picked 36 = .ok (.aload_n 0, 1) := by decide +kernel
theorem dX12_picked_37 : decode cX12_picked 37 = .ok (.getfield 108, 3) := by decide +kernel
theorem dX12_picked_40 : decode cX12_picked 40 = .ok (.iload 4, 2) := by decide +kernel
theorem dX12_picked_42 : decode cX12_picked 42 = .ok (.aload_n 0, 1) := by decide +kernel
theorem dX12_picked_43 : decode cX12_picked 43 = .ok (.getfield 99, 3) := by decide +kernel
theorem dX12_picked_46 : decode cX12_picked 46 = .ok (.iload 4, 2) := by decide +kernel
theorem dX12_picked_48 : decode cX12_picked 48 = .ok (.iaload, 1) := by decide +kernel
theorem dX12_picked_49 : decode cX12_picked 49 = .ok (.iastore, 1) := by decide +kernel
theorem dX12_picked_50 : decode cX12_picked 50 = .ok (.aload_n 0, 1) := by decide +kernel
theorem dX12_picked_51 : decode cX12_picked 51 = .ok (.getfield 111, 3) := by decide +kernel
theorem dX12_picked_54 : decode cX12_picked 54 = .ok (.iload 4, 2) := by decide +kernel
theorem dX12_picked_56 : decode cX12_picked 56 = .ok (.aload_n 0, 1) := by decide +kernel
theorem dX12_picked_57 : decode cX12_picked 57 = .ok (.getfield 102, 3) := by decide +kernel
theorem dX12_picked_60 : decode cX12_picked 60 = .ok (.iload 4, 2) := by decide +kernel
theorem dX12_picked_62 : decode cX12_picked 62 = .ok (.iaload, 1) := by decide +kernel
theorem dX12_picked_63 : decode cX12_picked 63 = .ok (.iastore, 1) := by decide +kernel
theorem dX12_picked_64 : decode cX12_picked 64 = .ok (.iinc 4 1, 3) := by decide +kernel
theorem dX12_picked_67 : decode cX12_picked 67 = .ok (.goto (-37), 3) := by decide +kernel
theorem dX12_picked_70 : decode cX12_picked 70 = .ok (.aload_n 0, 1) := by decide +kernel
theorem dX12_picked_71 : decode cX12_picked 71 = .ok (.iload_n 1, 1) := by decide +kernel
theorem dX12_picked_72 : decode cX12_picked 72 = .ok (.aload_n 0, 1) := by decide +kernel
theorem dX12_picked_73 : decode cX12_picked 73 = .ok (.getfield 47, 3) := by decide +kernel
theorem dX12_picked_76 : decode cX12_picked 76 = .ok (.invokevirtual 659, 3) := by decide +kernel
theorem dX12_picked_79 : decode cX12_picked 79 = .ok (.iconst 0, 1) := by decide +kernel
theorem dX12_picked_80 : decode cX12_picked 80 = .ok (.istore 4, 2) := by decide +kernel
theorem dX12_picked_82 : decode cX12_picked 82 = .ok (.iload 4, 2) := by decide +kernel
theorem dX12_picked_84 : decode cX12_picked 84 = .ok (.aload_n 0, 1) := by decide +kernel
theorem dX12_picked_85 : decode cX12_picked 85 = .ok (.getfield 178, 3) := by decide +kernel
theorem dX12_picked_88 : decode cX12_picked 88 = .ok (.if_icmp .ge 118, 3) := by decide +kernel
theorem dX12_picked_91 : decode cX12_picked 91 = .ok (.iload 4, 2) := by decide +kernel
theorem dX12_picked_93 : decode cX12_picked 93 = .ok (.iload_n 2, 1) := by decide +kernel
theorem dX12_picked_94 : decode cX12_picked 94 = .ok (.if_icmp .eq 106, 3) := by decide +kernel
theorem dX12_picked_97 : decode cX12_picked 97 = .ok (.aload_n 0, 1) := by decide +kernel
theorem dX12_picked_98 : decode cX12_picked 98 = .ok (.getfield 47, 3) := by decide +kernel
theorem dX12_picked_101 : decode cX12_picked 101 = .ok (.iload 4, 2) := by decide +kernel
theorem dX12_picked_103 : decode cX12_picked 103 = .ok (.baload, 1) := by decide +kernel
theorem dX12_picked_104 : decode cX12_picked 104 = .ok (.ifCond .ne 6, 3) := by decide +kernel
theorem dX12_picked_107 : decode cX12_picked 107 = .ok (.goto 93, 3) := by decide +kernel
theorem dX12_picked_110 : decode cX12_picked 110 = .ok (.aload_n 0, 1) := by decide +kernel
theorem dX12_picked_111 : decode cX12_picked 111 = .ok (.iload 4, 2) := by decide +kernel
theorem dX12_picked_113 : decode cX12_picked 113 = .ok (.invokevirtual 653, 3) := by decide +kernel
theorem dX12_picked_116 : decode cX12_picked 116 = .ok (.aload_n 0, 1) := by decide +kernel
theorem dX12_picked_117 : decode cX12_picked 117 = .ok (.getfield 644, 3) := by decide +kernel
theorem dX12_picked_120 : decode cX12_picked 120 = .ok (.iload_n 3, 1) := by decide +kernel
theorem dX12_picked_121 : decode cX12_picked 121 = .ok (.if_icmp .ne 7, 3) := by decide +kernel
theorem dX12_picked_124 : decode cX12_picked 124 = .ok (.iconst 1, 1) := by decide +kernel
theorem dX12_picked_125 : decode cX12_picked 125 = .ok (.goto 4, 3) := by decide +kernel
theorem dX12_picked_128 : decode cX12_picked 128 = .ok (.iconst 0, 1) := by decide +kernel
theorem dX12_picked_129 : decode cX12_picked 129 = .ok (.istore 5, 2) := by decide +kernel
theorem dX12_picked_131 : decode cX12_picked 131 = .ok (.iconst 0, 1) := by decide +kernel
theorem dX12_picked_132 : decode cX12_picked 132 = .ok (.istore 6, 2) := by decide +kernel
theorem dX12_picked_134 : decode cX12_picked 134 = .ok (.iload 6, 2) := by decide +kernel
theorem dX12_picked_136 : decode cX12_picked 136 = .ok (.iload_n 3, 1) := by decide +kernel
theorem dX12_picked_137 : decode cX12_picked 137 = .ok (.if_icmp .ge 55, 3) := by decide +kernel
theorem dX12_picked_140 : decode cX12_picked 140 = .ok (.iload 5, 2) := by decide +kernel
theorem dX12_picked_142 : decode cX12_picked 142 = .ok (.ifCond .eq 50, 3) := by decide +kernel
theorem dX12_picked_145 : decode cX12_picked 145 = .ok (.aload_n 0, 1) := by decide +kernel
theorem dX12_picked_146 : decode cX12_picked 146 = .ok (.getfield 108, 3) := by decide +kernel
theorem dX12_picked_149 : decode cX12_picked 149 = .ok (.iload 6, 2) := by decide +kernel
theorem dX12_picked_151 : decode cX12_picked 151 = .ok (.iaload, 1) := by decide +kernel
theorem dX12_picked_152 : decode cX12_picked 152 = .ok (.aload_n 0, 1) := by decide +kernel
theorem dX12_picked_153 : decode cX12_picked 153 = .ok (.getfield 99, 3) := by decide +kernel
theorem dX12_picked_156 : decode cX12_picked 156 = .ok (.iload 6, 2) := by decide +kernel
theorem dX12_picked_158 : decode cX12_picked 158 = .ok (.iaload, 1) := by decide +kernel
theorem dX12_picked_159 : decode cX12_picked 159 = .ok (.if_icmp .ne 24, 3) := by decide +kernel
theorem dX12_picked_162 : decode cX12_picked 162 = .ok (.aload_n 0, 1) := by decide +kernel
theorem dX12_picked_163 : decode cX12_picked 163 = .ok (.getfield 111, 3) := by decide +kernel
theorem dX12_picked_166 : decode cX12_picked 166 = .ok (.iload 6, 2) := by decide +kernel
theorem dX12_picked_168 : decode cX12_picked 168 = .ok (.iaload, 1) := by decide +kernel
theorem dX12_picked_169 : decode cX12_picked 169 = .ok (.aload_n 0, 1) := by decide +kernel
theorem dX12_picked_170 : decode cX12_picked 170 = .ok (.getfield 102, 3) := by decide +kernel
theorem dX12_picked_173 : decode cX12_picked 173 = .ok (.iload 6, 2) := by decide +kernel
theorem dX12_picked_175 : decode cX12_picked 175 = .ok (.iaload, 1) := by decide +kernel
theorem dX12_picked_176 : decode cX12_picked 176 = .ok (.if_icmp .ne 7, 3) := by decide +kernel
theorem dX12_picked_179 : decode cX12_picked 179 = .ok (.iconst 1, 1) := by decide +kernel
theorem dX12_picked_180 : decode cX12_picked 180 = .ok (.goto 4, 3) := by decide +kernel
theorem dX12_picked_183 : decode cX12_picked 183 = .ok (.iconst 0, 1) := by decide +kernel
theorem dX12_picked_184 : decode cX12_picked 184 = .ok (.istore 5, 2) := by decide +kernel
theorem dX12_picked_186 : decode cX12_picked 186 = .ok (.iinc 6 1, 3) := by decide +kernel
theorem dX12_picked_189 : decode cX12_picked 189 = .ok (.goto (-55), 3) := by decide +kernel
theorem dX12_picked_192 : decode cX12_picked 192 = .ok (.iload 5, 2) := by decide +kernel
theorem dX12_picked_194 : decode cX12_picked 194 = .ok (.ifCond .eq 6, 3) := by decide +kernel
theorem dX12_picked_197 : decode cX12_picked 197 = .ok (.iload 4, 2) := by decide +kernel
theorem dX12_picked_199 : decode cX12_picked 199 = .ok (.ireturn, 1) := by decide +kernel
theorem dX12_picked_200 : decode cX12_picked 200 = .ok (.iinc 4 1, 3) := by decide +kernel
theorem dX12_picked_203 : decode cX12_picked 203 = .ok (.goto (-121), 3) := by decide +kernel
theorem dX12_picked_206 : decode cX12_picked 206 = .ok (.bipush (-2), 2) := by decide +kernel
theorem dX12_picked_208 : decode cX12_picked 208 = .ok (.ireturn, 1) := by decide +kernel
noncomputable def st_picked : Nat × List Int × gM → Option ((Nat × List Int × gM) ⊕ (Int × gM))
  | (0, [x1, x2, x3, x4], M) => (if x4 < x3 then
      (if 0 ≤ x4 ∧ x4 < 32 then
        some (.inl (0, [x1, x2, x3, (gw32 (x4 + 1))], (gU (gU M 744 x4 (M 741 x4)) 745 x4 ((gU M 744 x4 (M 741 x4)) 742 x4))))
      else none)
    else
      (Option.bind (F_marksHistory M x1 724) (fun m76 =>
        some (.inl (1, [x1, x2, x3, 0], m76)))))
  | (1, [x1, x2, x3, x4], M) => (if x4 < (M 711 0) then
      (if x4 = x2 then
        some (.inl (1, [x1, x2, x3, (gw32 (x4 + 1))], M))
      else
        (if 0 ≤ x4 ∧ x4 < 120 then
          (if (M 724 x4) = 0 then
            some (.inl (1, [x1, x2, x3, (gw32 (x4 + 1))], M))
          else
            (Option.bind (F_laysChange M x4) (fun m113 =>
              (if (m113 711 49) = x3 then
                some (.inl (2, [x1, x2, x3, x4, 1, 0], m113))
              else
                some (.inl (2, [x1, x2, x3, x4, 0, 0], m113))))))
        else none))
    else
      some (.inr (-2, M)))
  | (2, [x1, x2, x3, x4, x5, x6], M) => (if x6 < x3 then
      (if x5 = 0 then
        (if x5 = 0 then
          some (.inl (1, [x1, x2, x3, (gw32 (x4 + 1))], M))
        else
          some (.inr (x4, M)))
      else
        (if 0 ≤ x6 ∧ x6 < 32 then
          (if (M 744 x6) = (M 741 x6) then
            (if (M 745 x6) = (M 742 x6) then
              some (.inl (2, [x1, x2, x3, x4, 1, (gw32 (x6 + 1))], M))
            else
              some (.inl (2, [x1, x2, x3, x4, 0, (gw32 (x6 + 1))], M)))
          else
            some (.inl (2, [x1, x2, x3, x4, 0, (gw32 (x6 + 1))], M)))
        else none))
    else
      (if x5 = 0 then
        some (.inl (1, [x1, x2, x3, (gw32 (x4 + 1))], M))
      else
        some (.inr (x4, M))))
  | _ => none
theorem sk_picked_30 (k : Nat × List Int × gM → Option (Int × gM)) (M : gM) (x1 x2 x3 x4 : Int) : gWk k (st_picked (0, [x1, x2, x3, x4], M)) = (if x4 < x3 then
    (if 0 ≤ x4 ∧ x4 < 32 then
      k (0, [x1, x2, x3, (gw32 (x4 + 1))], (gU (gU M 744 x4 (M 741 x4)) 745 x4 ((gU M 744 x4 (M 741 x4)) 742 x4)))
    else none)
  else
    (Option.bind (F_marksHistory M x1 724) (fun m76 =>
      k (1, [x1, x2, x3, 0], m76)))) := by
  simp only [st_picked, gWk_ite, gWk_bind, gWk_inl, gWk_inr, gWk_none]
theorem sk_picked_82 (k : Nat × List Int × gM → Option (Int × gM)) (M : gM) (x1 x2 x3 x4 : Int) : gWk k (st_picked (1, [x1, x2, x3, x4], M)) = (if x4 < (M 711 0) then
    (if x4 = x2 then
      k (1, [x1, x2, x3, (gw32 (x4 + 1))], M)
    else
      (if 0 ≤ x4 ∧ x4 < 120 then
        (if (M 724 x4) = 0 then
          k (1, [x1, x2, x3, (gw32 (x4 + 1))], M)
        else
          (Option.bind (F_laysChange M x4) (fun m113 =>
            (if (m113 711 49) = x3 then
              k (2, [x1, x2, x3, x4, 1, 0], m113)
            else
              k (2, [x1, x2, x3, x4, 0, 0], m113)))))
      else none))
  else
    some (-2, M)) := by
  simp only [st_picked, gWk_ite, gWk_bind, gWk_inl, gWk_inr, gWk_none]
theorem sk_picked_134 (k : Nat × List Int × gM → Option (Int × gM)) (M : gM) (x1 x2 x3 x4 x5 x6 : Int) : gWk k (st_picked (2, [x1, x2, x3, x4, x5, x6], M)) = (if x6 < x3 then
    (if x5 = 0 then
      (if x5 = 0 then
        k (1, [x1, x2, x3, (gw32 (x4 + 1))], M)
      else
        some (x4, M))
    else
      (if 0 ≤ x6 ∧ x6 < 32 then
        (if (M 744 x6) = (M 741 x6) then
          (if (M 745 x6) = (M 742 x6) then
            k (2, [x1, x2, x3, x4, 1, (gw32 (x6 + 1))], M)
          else
            k (2, [x1, x2, x3, x4, 0, (gw32 (x6 + 1))], M))
        else
          k (2, [x1, x2, x3, x4, 0, (gw32 (x6 + 1))], M))
      else none))
  else
    (if x5 = 0 then
      k (1, [x1, x2, x3, (gw32 (x4 + 1))], M)
    else
      some (x4, M))) := by
  simp only [st_picked, gWk_ite, gWk_bind, gWk_inl, gWk_inr, gWk_none]
noncomputable def F_picked_30 (M : gM) (x1 x2 x3 x4 : Int) : Option (Int × gM) := gWh (st_picked) (0, [x1, x2, x3, x4], M)
noncomputable def F_picked_82 (M : gM) (x1 x2 x3 x4 : Int) : Option (Int × gM) := gWh (st_picked) (1, [x1, x2, x3, x4], M)
noncomputable def F_picked_134 (M : gM) (x1 x2 x3 x4 x5 x6 : Int) : Option (Int × gM) := gWh (st_picked) (2, [x1, x2, x3, x4, x5, x6], M)
theorem eq_picked_30 (M : gM) (x1 x2 x3 x4 : Int) : F_picked_30 M x1 x2 x3 x4 = (if x4 < x3 then
    (if 0 ≤ x4 ∧ x4 < 32 then
      F_picked_30 (gU (gU M 744 x4 (M 741 x4)) 745 x4 ((gU M 744 x4 (M 741 x4)) 742 x4)) x1 x2 x3 (gw32 (x4 + 1))
    else none)
  else
    (Option.bind (F_marksHistory M x1 724) (fun m76 =>
      F_picked_82 m76 x1 x2 x3 0))) := (gWh_eq _).trans (sk_picked_30 _ M x1 x2 x3 x4)
theorem eq_picked_82 (M : gM) (x1 x2 x3 x4 : Int) : F_picked_82 M x1 x2 x3 x4 = (if x4 < (M 711 0) then
    (if x4 = x2 then
      F_picked_82 M x1 x2 x3 (gw32 (x4 + 1))
    else
      (if 0 ≤ x4 ∧ x4 < 120 then
        (if (M 724 x4) = 0 then
          F_picked_82 M x1 x2 x3 (gw32 (x4 + 1))
        else
          (Option.bind (F_laysChange M x4) (fun m113 =>
            (if (m113 711 49) = x3 then
              F_picked_134 m113 x1 x2 x3 x4 1 0
            else
              F_picked_134 m113 x1 x2 x3 x4 0 0))))
      else none))
  else
    some (-2, M)) := (gWh_eq _).trans (sk_picked_82 _ M x1 x2 x3 x4)
theorem eq_picked_134 (M : gM) (x1 x2 x3 x4 x5 x6 : Int) : F_picked_134 M x1 x2 x3 x4 x5 x6 = (if x6 < x3 then
    (if x5 = 0 then
      (if x5 = 0 then
        F_picked_82 M x1 x2 x3 (gw32 (x4 + 1))
      else
        some (x4, M))
    else
      (if 0 ≤ x6 ∧ x6 < 32 then
        (if (M 744 x6) = (M 741 x6) then
          (if (M 745 x6) = (M 742 x6) then
            F_picked_134 M x1 x2 x3 x4 1 (gw32 (x6 + 1))
          else
            F_picked_134 M x1 x2 x3 x4 0 (gw32 (x6 + 1)))
        else
          F_picked_134 M x1 x2 x3 x4 0 (gw32 (x6 + 1)))
      else none))
  else
    (if x5 = 0 then
      F_picked_82 M x1 x2 x3 (gw32 (x4 + 1))
    else
      some (x4, M))) := (gWh_eq _).trans (sk_picked_134 _ M x1 x2 x3 x4 x5 x6)
noncomputable def F_picked (M : gM) (a1 a2 : Int) : Option (Int × gM) := (Option.bind (F_isHistory a1) (fun r1 =>
    (if r1 = 0 then
      some (-1, M)
    else
      (Option.bind (F_isCommit M a2) (fun r9 =>
        (if r9 = 0 then
          some (-1, M)
        else
          (Option.bind (F_laysChange M a2) (fun m19 =>
            F_picked_30 m19 a1 a2 (m19 711 49) 0))))))))
theorem eq_picked (M : gM) (a1 a2 : Int) : F_picked M a1 a2 = (Option.bind (F_isHistory a1) (fun r1 =>
    (if r1 = 0 then
      some (-1, M)
    else
      (Option.bind (F_isCommit M a2) (fun r9 =>
        (if r9 = 0 then
          some (-1, M)
        else
          (Option.bind (F_laysChange M a2) (fun m19 =>
            F_picked_30 m19 a1 a2 (m19 711 49) 0)))))))) := rfl
theorem frp_picked : ∀ (s : Nat × List Int × gM) (b : Int × gM), gWh (st_picked) s = some b → (∀ (x1 x2 x3 x4 : Int) (M : gM), s = (0, [x1, x2, x3, x4], M) → gFr [724, 741, 742, 743, 744, 745] [49] M b.2) ∧ (∀ (x1 x2 x3 x4 : Int) (M : gM), s = (1, [x1, x2, x3, x4], M) → gFr [724, 741, 742, 743, 744, 745] [49] M b.2) ∧ (∀ (x1 x2 x3 x4 x5 x6 : Int) (M : gM), s = (2, [x1, x2, x3, x4, x5, x6], M) → gFr [724, 741, 742, 743, 744, 745] [49] M b.2) := by
  refine gWh_ind (fun k hk s b h => ⟨?_, ?_, ?_⟩)
  · rintro x1 x2 x3 x4 M rfl
    rw [sk_picked_30] at h
    rcases gI_or h with h | h
    · obtain ⟨g2, h⟩ := gI_gd h
      exact gFr_t (gFr_a (gFr_a (gFr_r [724, 741, 742, 743, 744, 745] [49] _) (.tail _ (.tail _ (.tail _ (.tail _ (.head _))))) (by decide)) (.tail _ (.tail _ (.tail _ (.tail _ (.tail _ (.head _)))))) (by decide)) ((hk _ _ h).1 _ _ _ _ _ rfl) (fun _ z => z) (fun _ z => z)
    · obtain ⟨m76, e76, h⟩ := gI_bd h
      exact gFr_t (gFr_t (gFr_r [724, 741, 742, 743, 744, 745] [49] _) (fr_marksHistory (b := m76) e76) (by first | decide | simp) (by decide)) ((hk _ _ h).2.1 _ _ _ _ _ rfl) (fun _ z => z) (fun _ z => z)
  · rintro x1 x2 x3 x4 M rfl
    rw [sk_picked_82] at h
    rcases gI_or h with h | h
    · rcases gI_or h with h | h
      · exact gFr_t (gFr_r [724, 741, 742, 743, 744, 745] [49] _) ((hk _ _ h).2.1 _ _ _ _ _ rfl) (fun _ z => z) (fun _ z => z)
      · obtain ⟨g5, h⟩ := gI_gd h
        rcases gI_or h with h | h
        · exact gFr_t (gFr_r [724, 741, 742, 743, 744, 745] [49] _) ((hk _ _ h).2.1 _ _ _ _ _ rfl) (fun _ z => z) (fun _ z => z)
        · obtain ⟨m113, e113, h⟩ := gI_bd h
          rcases gI_or h with h | h
          · exact gFr_t (gFr_t (gFr_r [724, 741, 742, 743, 744, 745] [49] _) (fr_laysChange (b := m113) e113) (by first | decide | simp) (by decide)) ((hk _ _ h).2.2 _ _ _ _ _ _ _ rfl) (fun _ z => z) (fun _ z => z)
          · exact gFr_t (gFr_t (gFr_r [724, 741, 742, 743, 744, 745] [49] _) (fr_laysChange (b := m113) e113) (by first | decide | simp) (by decide)) ((hk _ _ h).2.2 _ _ _ _ _ _ _ rfl) (fun _ z => z) (fun _ z => z)
    · rw [← Option.some.inj h]
      exact (gFr_r [724, 741, 742, 743, 744, 745] [49] _)
  · rintro x1 x2 x3 x4 x5 x6 M rfl
    rw [sk_picked_134] at h
    rcases gI_or h with h | h
    · rcases gI_or h with h | h
      · rcases gI_or h with h | h
        · exact gFr_t (gFr_r [724, 741, 742, 743, 744, 745] [49] _) ((hk _ _ h).2.1 _ _ _ _ _ rfl) (fun _ z => z) (fun _ z => z)
        · rw [← Option.some.inj h]
          exact (gFr_r [724, 741, 742, 743, 744, 745] [49] _)
      · obtain ⟨g7, h⟩ := gI_gd h
        rcases gI_or h with h | h
        · rcases gI_or h with h | h
          · exact gFr_t (gFr_r [724, 741, 742, 743, 744, 745] [49] _) ((hk _ _ h).2.2 _ _ _ _ _ _ _ rfl) (fun _ z => z) (fun _ z => z)
          · exact gFr_t (gFr_r [724, 741, 742, 743, 744, 745] [49] _) ((hk _ _ h).2.2 _ _ _ _ _ _ _ rfl) (fun _ z => z) (fun _ z => z)
        · exact gFr_t (gFr_r [724, 741, 742, 743, 744, 745] [49] _) ((hk _ _ h).2.2 _ _ _ _ _ _ _ rfl) (fun _ z => z) (fun _ z => z)
    · rcases gI_or h with h | h
      · exact gFr_t (gFr_r [724, 741, 742, 743, 744, 745] [49] _) ((hk _ _ h).2.1 _ _ _ _ _ rfl) (fun _ z => z) (fun _ z => z)
      · rw [← Option.some.inj h]
        exact (gFr_r [724, 741, 742, 743, 744, 745] [49] _)
theorem fr_picked_30 {M : gM} {x1 x2 x3 x4 : Int} {b : Int × gM} (h : F_picked_30 M x1 x2 x3 x4 = some b) : gFr [724, 741, 742, 743, 744, 745] [49] M b.2 :=
  (frp_picked _ _ h).1 _ _ _ _ _ rfl
theorem fr_picked_82 {M : gM} {x1 x2 x3 x4 : Int} {b : Int × gM} (h : F_picked_82 M x1 x2 x3 x4 = some b) : gFr [724, 741, 742, 743, 744, 745] [49] M b.2 :=
  (frp_picked _ _ h).2.1 _ _ _ _ _ rfl
theorem fr_picked_134 {M : gM} {x1 x2 x3 x4 x5 x6 : Int} {b : Int × gM} (h : F_picked_134 M x1 x2 x3 x4 x5 x6 = some b) : gFr [724, 741, 742, 743, 744, 745] [49] M b.2 :=
  (frp_picked _ _ h).2.2 _ _ _ _ _ _ _ rfl
theorem fr_picked {M : gM} {a1 a2 : Int} {b : Int × gM} (h : F_picked M a1 a2 = some b) : gFr [724, 741, 742, 743, 744, 745] [49] M b.2 := by
  rw [eq_picked] at h
  obtain ⟨r1, e1, h⟩ := gI_bd h
  rcases gI_or h with h | h
  · rw [← Option.some.inj h]
    exact (gFr_r [724, 741, 742, 743, 744, 745] [49] _)
  · obtain ⟨r9, e9, h⟩ := gI_bd h
    rcases gI_or h with h | h
    · rw [← Option.some.inj h]
      exact (gFr_r [724, 741, 742, 743, 744, 745] [49] _)
    · obtain ⟨m19, e19, h⟩ := gI_bd h
      exact gFr_t (gFr_t (gFr_r [724, 741, 742, 743, 744, 745] [49] _) (fr_laysChange (b := m19) e19) (by first | decide | simp) (by decide)) (fr_picked_30 h) (fun _ z => z) (fun _ z => z)
theorem okp_picked {sh : gS} : ∀ (s : Nat × List Int × gM) (b : Int × gM), gWh (st_picked) s = some b → (∀ (x1 x2 x3 x4 : Int) (M : gM), s = (0, [x1, x2, x3, x4], M) → gOK sh M → gA (gr 5 112) yX12_picked cX12_picked 7 (some (.int)) (gPq sh (some (0, b.1)) b.2) (0, 0) 30 [(4, 711), (0, x1), (0, x2), (0, x3), (0, x4), (9, 0), (9, 0)] [] sh M) ∧ (∀ (x1 x2 x3 x4 : Int) (M : gM), s = (1, [x1, x2, x3, x4], M) → gOK sh M → gA (gr 5 112) yX12_picked cX12_picked 7 (some (.int)) (gPq sh (some (0, b.1)) b.2) (0, 0) 82 [(4, 711), (0, x1), (0, x2), (0, x3), (0, x4), (9, 0), (9, 0)] [] sh M) ∧ (∀ (x1 x2 x3 x4 x5 x6 : Int) (M : gM), s = (2, [x1, x2, x3, x4, x5, x6], M) → gOK sh M → gA (gr 5 112) yX12_picked cX12_picked 7 (some (.int)) (gPq sh (some (0, b.1)) b.2) (0, 0) 134 [(4, 711), (0, x1), (0, x2), (0, x3), (0, x4), (0, x5), (0, x6)] [] sh M) := by
  refine gWh_ind (fun k hk s b h => ⟨?_, ?_, ?_⟩)
  · rintro x1 x2 x3 x4 M rfl hOK
    rw [sk_picked_30] at h
    refine g_iload (q0 := 32) (j := 4) rfl dX12_picked_30 rfl ?_
    refine g_iload_n (q0 := 33) (j := 3) rfl dX12_picked_32 rfl ?_
    refine g_icmp_ge (q0 := 36) (tgt := 70) rfl dX12_picked_33 (by decide) (fun h33 => ?_) (fun h33 => ?_)
    · replace h := gI_neg (Int.not_lt.mpr h33) h
      refine g_aload_n (q0 := 71) (j := 0) rfl dX12_picked_70 rfl ?_
      refine g_iload_n (q0 := 72) (j := 1) rfl dX12_picked_71 rfl ?_
      refine g_aload_n (q0 := 73) (j := 0) rfl dX12_picked_72 rfl ?_
      refine g_getp (q0 := 76) (b := 724) rfl ff_X12_47 dX12_picked_73 rfl hOK (by decide) (sh_711 hOK) rfl (by decide) ?_
      obtain ⟨m76, e76, h⟩ := gI_bd h
      refine g_callVq0 (as := [_, _]) (rest := []) mt_X12_marksHistory mi_X12_marksHistory se_X12_marksHistory ml_X12_659 dX12_picked_76 (q0 := 79) rfl rfl (sh_711 hOK) rfl rfl (ok_marksHistory hOK e76) rfl ⟨by decide, by decide⟩ (Nat.le_of_ble_eq_true rfl) ⟨Nat.zero_le _, Nat.zero_le _⟩ ?_
      have hOK1 : gOK sh m76 := gOK_fr hOK (fr_marksHistory (b := m76) e76) (by first | decide | (intro a ha; simp only [List.mem_cons, List.not_mem_nil, or_false] at ha; omega)) (by decide)
      refine g_iconst (q0 := 80) rfl dX12_picked_79 (k := ?_)
      refine g_istore (q0 := 82) (j := 4) (lv2 := [_, _, _, _, _, _, _]) rfl dX12_picked_80 (by decide) rfl rfl ?_
      exact (hk _ _ h).2.1 _ _ _ _ _ rfl hOK1
    · replace h := gI_pos h33 h
      refine g_aload_n (q0 := 37) (j := 0) rfl dX12_picked_36 rfl ?_
      refine g_getp (q0 := 40) (b := 744) rfl ff_X12_108 dX12_picked_37 rfl hOK (by decide) (sh_711 hOK) rfl (by decide) ?_
      refine g_iload (q0 := 42) (j := 4) rfl dX12_picked_40 rfl ?_
      refine g_aload_n (q0 := 43) (j := 0) rfl dX12_picked_42 rfl ?_
      refine g_getp (q0 := 46) (b := 741) rfl ff_X12_99 dX12_picked_43 rfl hOK (by decide) (sh_711 hOK) rfl (by decide) ?_
      refine g_iload (q0 := 48) (j := 4) rfl dX12_picked_46 rfl ?_
      obtain ⟨g2, h⟩ := gI_gd h
      refine g_iald (q0 := 49) rfl dX12_picked_48 (sh_741 hOK) g2.1 g2.2 ?_
      refine g_iast (q0 := 50) rfl dX12_picked_49 (sh_744 hOK) g2.1 g2.2 ?_
      have hOK3 : gOK sh (gU M 744 x4 (M 741 x4)) := gOK_i hOK (sh_744 hOK)
      refine g_aload_n (q0 := 51) (j := 0) rfl dX12_picked_50 rfl ?_
      refine g_getp (q0 := 54) (b := 745) rfl ff_X12_111 dX12_picked_51 rfl hOK3 (by decide) (sh_711 hOK3) rfl (by decide) ?_
      refine g_iload (q0 := 56) (j := 4) rfl dX12_picked_54 rfl ?_
      refine g_aload_n (q0 := 57) (j := 0) rfl dX12_picked_56 rfl ?_
      refine g_getp (q0 := 60) (b := 742) rfl ff_X12_102 dX12_picked_57 rfl hOK3 (by decide) (sh_711 hOK3) rfl (by decide) ?_
      refine g_iload (q0 := 62) (j := 4) rfl dX12_picked_60 rfl ?_
      refine g_iald (q0 := 63) rfl dX12_picked_62 (sh_742 hOK3) g2.1 g2.2 ?_
      refine g_iast (q0 := 64) rfl dX12_picked_63 (sh_745 hOK3) g2.1 g2.2 ?_
      have hOK4 : gOK sh (gU (gU M 744 x4 (M 741 x4)) 745 x4 ((gU M 744 x4 (M 741 x4)) 742 x4)) := gOK_i hOK3 (sh_745 hOK3)
      refine g_iincw (q0 := 67) (lv2 := [_, _, _, _, _, _, _]) rfl dX12_picked_64 rfl (by decide) rfl rfl ?_
      refine g_goto (tgt := 30) dX12_picked_67 (by decide) ?_
      exact (hk _ _ h).1 _ _ _ _ _ rfl hOK4
  · rintro x1 x2 x3 x4 M rfl hOK
    rw [sk_picked_82] at h
    refine g_iload (q0 := 84) (j := 4) rfl dX12_picked_82 rfl ?_
    refine g_aload_n (q0 := 85) (j := 0) rfl dX12_picked_84 rfl ?_
    refine g_getf (q0 := 88) (t := 0) (fi := 0) rfl rfl ff_X12_178 dX12_picked_85 rfl (sh_711 hOK) ?_
    refine g_icmp_ge (q0 := 91) (tgt := 206) rfl dX12_picked_88 (by decide) (fun h88 => ?_) (fun h88 => ?_)
    · replace h := gI_neg (Int.not_lt.mpr h88) h
      refine g_bipush (q0 := 208) rfl dX12_picked_206 (k := ?_)
      rw [← Option.some.inj h]
      refine g_ireturn dX12_picked_208 rfl ⟨Nat.zero_le _, Nat.zero_le _⟩ ?_
      exact ⟨rfl, rfl, rfl⟩
    · replace h := gI_pos h88 h
      refine g_iload (q0 := 93) (j := 4) rfl dX12_picked_91 rfl ?_
      refine g_iload_n (q0 := 94) (j := 2) rfl dX12_picked_93 rfl ?_
      refine g_icmp_eq (q0 := 97) (tgt := 200) rfl dX12_picked_94 (by decide) (fun h94 => ?_) (fun h94 => ?_)
      · replace h := gI_pos h94 h
        refine g_iincw (q0 := 203) (lv2 := [_, _, _, _, _, _, _]) rfl dX12_picked_200 rfl (by decide) rfl rfl ?_
        refine g_goto (tgt := 82) dX12_picked_203 (by decide) ?_
        exact (hk _ _ h).2.1 _ _ _ _ _ rfl hOK
      · replace h := gI_neg h94 h
        refine g_aload_n (q0 := 98) (j := 0) rfl dX12_picked_97 rfl ?_
        refine g_getp (q0 := 101) (b := 724) rfl ff_X12_47 dX12_picked_98 rfl hOK (by decide) (sh_711 hOK) rfl (by decide) ?_
        refine g_iload (q0 := 103) (j := 4) rfl dX12_picked_101 rfl ?_
        obtain ⟨g5, h⟩ := gI_gd h
        refine g_zald (q0 := 104) rfl dX12_picked_103 (sh_724 hOK) g5.1 g5.2 ?_
        refine g_if_ne (q0 := 107) (tgt := 110) rfl dX12_picked_104 (by decide) (fun h104 => ?_) (fun h104 => ?_)
        · replace h := gI_neg h104 h
          refine g_aload_n (q0 := 111) (j := 0) rfl dX12_picked_110 rfl ?_
          refine g_iload (q0 := 113) (j := 4) rfl dX12_picked_111 rfl ?_
          obtain ⟨m113, e113, h⟩ := gI_bd h
          refine g_callVq0 (as := [_]) (rest := []) mt_X12_laysChange mi_X12_laysChange se_X12_laysChange ml_X12_653 dX12_picked_113 (q0 := 116) rfl rfl (sh_711 hOK) rfl rfl (ok_laysChange hOK e113) rfl ⟨by decide, by decide⟩ (Nat.le_of_ble_eq_true rfl) ⟨Nat.zero_le _, Nat.zero_le _⟩ ?_
          have hOK6 : gOK sh m113 := gOK_fr hOK (fr_laysChange (b := m113) e113) (by first | decide | (intro a ha; simp only [List.mem_cons, List.not_mem_nil, or_false] at ha; omega)) (by decide)
          refine g_aload_n (q0 := 117) (j := 0) rfl dX12_picked_116 rfl ?_
          refine g_getf (q0 := 120) (t := 0) (fi := 49) rfl rfl ff_X12_644 dX12_picked_117 rfl (sh_711 hOK6) ?_
          refine g_iload_n (q0 := 121) (j := 3) rfl dX12_picked_120 rfl ?_
          refine g_icmp_ne (q0 := 124) (tgt := 128) rfl dX12_picked_121 (by decide) (fun h121 => ?_) (fun h121 => ?_)
          · replace h := gI_neg h121 h
            refine g_iconst (q0 := 129) rfl dX12_picked_128 (k := ?_)
            refine g_istore (q0 := 131) (j := 5) (lv2 := [_, _, _, _, _, _, _]) rfl dX12_picked_129 (by decide) rfl rfl ?_
            refine g_iconst (q0 := 132) rfl dX12_picked_131 (k := ?_)
            refine g_istore (q0 := 134) (j := 6) (lv2 := [_, _, _, _, _, _, _]) rfl dX12_picked_132 (by decide) rfl rfl ?_
            exact (hk _ _ h).2.2 _ _ _ _ _ _ _ rfl hOK6
          · replace h := gI_pos h121 h
            refine g_iconst (q0 := 125) rfl dX12_picked_124 (k := ?_)
            refine g_goto (tgt := 129) dX12_picked_125 (by decide) ?_
            refine g_istore (q0 := 131) (j := 5) (lv2 := [_, _, _, _, _, _, _]) rfl dX12_picked_129 (by decide) rfl rfl ?_
            refine g_iconst (q0 := 132) rfl dX12_picked_131 (k := ?_)
            refine g_istore (q0 := 134) (j := 6) (lv2 := [_, _, _, _, _, _, _]) rfl dX12_picked_132 (by decide) rfl rfl ?_
            exact (hk _ _ h).2.2 _ _ _ _ _ _ _ rfl hOK6
        · replace h := gI_pos h104 h
          refine g_goto (tgt := 200) dX12_picked_107 (by decide) ?_
          refine g_iincw (q0 := 203) (lv2 := [_, _, _, _, _, _, _]) rfl dX12_picked_200 rfl (by decide) rfl rfl ?_
          refine g_goto (tgt := 82) dX12_picked_203 (by decide) ?_
          exact (hk _ _ h).2.1 _ _ _ _ _ rfl hOK
  · rintro x1 x2 x3 x4 x5 x6 M rfl hOK
    rw [sk_picked_134] at h
    refine g_iload (q0 := 136) (j := 6) rfl dX12_picked_134 rfl ?_
    refine g_iload_n (q0 := 137) (j := 3) rfl dX12_picked_136 rfl ?_
    refine g_icmp_ge (q0 := 140) (tgt := 192) rfl dX12_picked_137 (by decide) (fun h137 => ?_) (fun h137 => ?_)
    · replace h := gI_neg (Int.not_lt.mpr h137) h
      refine g_iload (q0 := 194) (j := 5) rfl dX12_picked_192 rfl ?_
      refine g_if_eq (q0 := 197) (tgt := 200) rfl dX12_picked_194 (by decide) (fun h194 => ?_) (fun h194 => ?_)
      · replace h := gI_pos h194 h
        refine g_iincw (q0 := 203) (lv2 := [_, _, _, _, _, _, _]) rfl dX12_picked_200 rfl (by decide) rfl rfl ?_
        refine g_goto (tgt := 82) dX12_picked_203 (by decide) ?_
        refine gA_jk (lv1 := [_, _, _, _, _, (9, 0), (9, 0)]) ⟨.inl rfl, .inl rfl, .inl rfl, .inl rfl, .inl rfl, .inr rfl, .inr rfl, trivial⟩ ?_
        exact (hk _ _ h).2.1 _ _ _ _ _ rfl hOK
      · replace h := gI_neg h194 h
        refine g_iload (q0 := 199) (j := 4) rfl dX12_picked_197 rfl ?_
        rw [← Option.some.inj h]
        refine g_ireturn dX12_picked_199 rfl ⟨Nat.zero_le _, Nat.zero_le _⟩ ?_
        exact ⟨rfl, rfl, rfl⟩
    · replace h := gI_pos h137 h
      refine g_iload (q0 := 142) (j := 5) rfl dX12_picked_140 rfl ?_
      refine g_if_eq (q0 := 145) (tgt := 192) rfl dX12_picked_142 (by decide) (fun h142 => ?_) (fun h142 => ?_)
      · replace h := gI_pos h142 h
        refine g_iload (q0 := 194) (j := 5) rfl dX12_picked_192 rfl ?_
        refine g_if_eq (q0 := 197) (tgt := 200) rfl dX12_picked_194 (by decide) (fun h194 => ?_) (fun h194 => ?_)
        · replace h := gI_pos h194 h
          refine g_iincw (q0 := 203) (lv2 := [_, _, _, _, _, _, _]) rfl dX12_picked_200 rfl (by decide) rfl rfl ?_
          refine g_goto (tgt := 82) dX12_picked_203 (by decide) ?_
          refine gA_jk (lv1 := [_, _, _, _, _, (9, 0), (9, 0)]) ⟨.inl rfl, .inl rfl, .inl rfl, .inl rfl, .inl rfl, .inr rfl, .inr rfl, trivial⟩ ?_
          exact (hk _ _ h).2.1 _ _ _ _ _ rfl hOK
        · replace h := gI_neg h194 h
          refine g_iload (q0 := 199) (j := 4) rfl dX12_picked_197 rfl ?_
          rw [← Option.some.inj h]
          refine g_ireturn dX12_picked_199 rfl ⟨Nat.zero_le _, Nat.zero_le _⟩ ?_
          exact ⟨rfl, rfl, rfl⟩
      · replace h := gI_neg h142 h
        refine g_aload_n (q0 := 146) (j := 0) rfl dX12_picked_145 rfl ?_
        refine g_getp (q0 := 149) (b := 744) rfl ff_X12_108 dX12_picked_146 rfl hOK (by decide) (sh_711 hOK) rfl (by decide) ?_
        refine g_iload (q0 := 151) (j := 6) rfl dX12_picked_149 rfl ?_
        obtain ⟨g7, h⟩ := gI_gd h
        refine g_iald (q0 := 152) rfl dX12_picked_151 (sh_744 hOK) g7.1 g7.2 ?_
        refine g_aload_n (q0 := 153) (j := 0) rfl dX12_picked_152 rfl ?_
        refine g_getp (q0 := 156) (b := 741) rfl ff_X12_99 dX12_picked_153 rfl hOK (by decide) (sh_711 hOK) rfl (by decide) ?_
        refine g_iload (q0 := 158) (j := 6) rfl dX12_picked_156 rfl ?_
        refine g_iald (q0 := 159) rfl dX12_picked_158 (sh_741 hOK) g7.1 g7.2 ?_
        refine g_icmp_ne (q0 := 162) (tgt := 183) rfl dX12_picked_159 (by decide) (fun h159 => ?_) (fun h159 => ?_)
        · replace h := gI_neg h159 h
          refine g_iconst (q0 := 184) rfl dX12_picked_183 (k := ?_)
          refine g_istore (q0 := 186) (j := 5) (lv2 := [_, _, _, _, _, _, _]) rfl dX12_picked_184 (by decide) rfl rfl ?_
          refine g_iincw (q0 := 189) (lv2 := [_, _, _, _, _, _, _]) rfl dX12_picked_186 rfl (by decide) rfl rfl ?_
          refine g_goto (tgt := 134) dX12_picked_189 (by decide) ?_
          exact (hk _ _ h).2.2 _ _ _ _ _ _ _ rfl hOK
        · replace h := gI_pos h159 h
          refine g_aload_n (q0 := 163) (j := 0) rfl dX12_picked_162 rfl ?_
          refine g_getp (q0 := 166) (b := 745) rfl ff_X12_111 dX12_picked_163 rfl hOK (by decide) (sh_711 hOK) rfl (by decide) ?_
          refine g_iload (q0 := 168) (j := 6) rfl dX12_picked_166 rfl ?_
          refine g_iald (q0 := 169) rfl dX12_picked_168 (sh_745 hOK) g7.1 g7.2 ?_
          refine g_aload_n (q0 := 170) (j := 0) rfl dX12_picked_169 rfl ?_
          refine g_getp (q0 := 173) (b := 742) rfl ff_X12_102 dX12_picked_170 rfl hOK (by decide) (sh_711 hOK) rfl (by decide) ?_
          refine g_iload (q0 := 175) (j := 6) rfl dX12_picked_173 rfl ?_
          refine g_iald (q0 := 176) rfl dX12_picked_175 (sh_742 hOK) g7.1 g7.2 ?_
          refine g_icmp_ne (q0 := 179) (tgt := 183) rfl dX12_picked_176 (by decide) (fun h176 => ?_) (fun h176 => ?_)
          · replace h := gI_neg h176 h
            refine g_iconst (q0 := 184) rfl dX12_picked_183 (k := ?_)
            refine g_istore (q0 := 186) (j := 5) (lv2 := [_, _, _, _, _, _, _]) rfl dX12_picked_184 (by decide) rfl rfl ?_
            refine g_iincw (q0 := 189) (lv2 := [_, _, _, _, _, _, _]) rfl dX12_picked_186 rfl (by decide) rfl rfl ?_
            refine g_goto (tgt := 134) dX12_picked_189 (by decide) ?_
            exact (hk _ _ h).2.2 _ _ _ _ _ _ _ rfl hOK
          · replace h := gI_pos h176 h
            refine g_iconst (q0 := 180) rfl dX12_picked_179 (k := ?_)
            refine g_goto (tgt := 184) dX12_picked_180 (by decide) ?_
            refine g_istore (q0 := 186) (j := 5) (lv2 := [_, _, _, _, _, _, _]) rfl dX12_picked_184 (by decide) rfl rfl ?_
            refine g_iincw (q0 := 189) (lv2 := [_, _, _, _, _, _, _]) rfl dX12_picked_186 rfl (by decide) rfl rfl ?_
            refine g_goto (tgt := 134) dX12_picked_189 (by decide) ?_
            exact (hk _ _ h).2.2 _ _ _ _ _ _ _ rfl hOK
theorem ok_picked_30 {sh : gS} {M : gM} {x1 x2 x3 x4 : Int} {b : Int × gM} (hOK : gOK sh M) (h : F_picked_30 M x1 x2 x3 x4 = some b) : gA (gr 5 112) yX12_picked cX12_picked 7 (some (.int)) (gPq sh (some (0, b.1)) b.2) (0, 0) 30 [(4, 711), (0, x1), (0, x2), (0, x3), (0, x4), (9, 0), (9, 0)] [] sh M :=
  (okp_picked _ _ h).1 _ _ _ _ _ rfl hOK
theorem ok_picked_82 {sh : gS} {M : gM} {x1 x2 x3 x4 : Int} {b : Int × gM} (hOK : gOK sh M) (h : F_picked_82 M x1 x2 x3 x4 = some b) : gA (gr 5 112) yX12_picked cX12_picked 7 (some (.int)) (gPq sh (some (0, b.1)) b.2) (0, 0) 82 [(4, 711), (0, x1), (0, x2), (0, x3), (0, x4), (9, 0), (9, 0)] [] sh M :=
  (okp_picked _ _ h).2.1 _ _ _ _ _ rfl hOK
theorem ok_picked_134 {sh : gS} {M : gM} {x1 x2 x3 x4 x5 x6 : Int} {b : Int × gM} (hOK : gOK sh M) (h : F_picked_134 M x1 x2 x3 x4 x5 x6 = some b) : gA (gr 5 112) yX12_picked cX12_picked 7 (some (.int)) (gPq sh (some (0, b.1)) b.2) (0, 0) 134 [(4, 711), (0, x1), (0, x2), (0, x3), (0, x4), (0, x5), (0, x6)] [] sh M :=
  (okp_picked _ _ h).2.2 _ _ _ _ _ _ _ rfl hOK
theorem ok_picked {sh : gS} {M : gM} {a1 a2 : Int} {b : Int × gM} (hOK : gOK sh M) (h : F_picked M a1 a2 = some b) : gC (gr 5 112) yX12_picked cX12_picked 7 (some (.int)) [(4, 711), (0, a1), (0, a2)] sh M (gPq sh (some (0, b.1)) b.2) := by
  rw [eq_picked] at h
  refine gC_ofA (lv := [_, _, _, _, _, _, _]) (by decide +kernel) (Nat.le_of_ble_eq_true rfl) rfl (fun hMw hav => ?_)
  refine g_iload_n (q0 := 1) (j := 1) rfl dX12_picked_0 rfl ?_
  obtain ⟨r1, e1, h⟩ := gI_bd h
  refine g_callSq1 (as := [_]) (rest := []) mt_X12_isHistory ms_X12_isHistory ml_X12_353 dX12_picked_1 (q0 := 4) rfl rfl (ok_isHistory hOK e1) rfl ⟨by decide, by decide⟩ (Nat.le_of_ble_eq_true rfl) ⟨Nat.zero_le _, Nat.zero_le _⟩ ?_
  refine g_if_eq (q0 := 7) (tgt := 15) rfl dX12_picked_4 (by decide) (fun h4 => ?_) (fun h4 => ?_)
  · replace h := gI_pos h4 h
    refine g_iconst (q0 := 16) rfl dX12_picked_15 (k := ?_)
    rw [← Option.some.inj h]
    refine g_ireturn dX12_picked_16 rfl ⟨Nat.zero_le _, Nat.zero_le _⟩ ?_
    exact ⟨rfl, rfl, rfl⟩
  · replace h := gI_neg h4 h
    refine g_aload_n (q0 := 8) (j := 0) rfl dX12_picked_7 rfl ?_
    refine g_iload_n (q0 := 9) (j := 2) rfl dX12_picked_8 rfl ?_
    obtain ⟨r9, e9, h⟩ := gI_bd h
    refine g_callVq1 (as := [_]) (rest := []) mt_X12_isCommit mi_X12_isCommit se_X12_isCommit ml_X12_229 dX12_picked_9 (q0 := 12) rfl rfl (sh_711 hOK) rfl rfl (ok_isCommit hOK e9) rfl ⟨by decide, by decide⟩ (Nat.le_of_ble_eq_true rfl) ⟨Nat.zero_le _, Nat.zero_le _⟩ ?_
    refine g_if_ne (q0 := 15) (tgt := 17) rfl dX12_picked_12 (by decide) (fun h12 => ?_) (fun h12 => ?_)
    · replace h := gI_neg h12 h
      refine g_aload_n (q0 := 18) (j := 0) rfl dX12_picked_17 rfl ?_
      refine g_iload_n (q0 := 19) (j := 2) rfl dX12_picked_18 rfl ?_
      obtain ⟨m19, e19, h⟩ := gI_bd h
      refine g_callVq0 (as := [_]) (rest := []) mt_X12_laysChange mi_X12_laysChange se_X12_laysChange ml_X12_653 dX12_picked_19 (q0 := 22) rfl rfl (sh_711 hOK) rfl rfl (ok_laysChange hOK e19) rfl ⟨by decide, by decide⟩ (Nat.le_of_ble_eq_true rfl) ⟨Nat.zero_le _, Nat.zero_le _⟩ ?_
      have hOK8 : gOK sh m19 := gOK_fr hOK (fr_laysChange (b := m19) e19) (by first | decide | (intro a ha; simp only [List.mem_cons, List.not_mem_nil, or_false] at ha; omega)) (by decide)
      refine g_aload_n (q0 := 23) (j := 0) rfl dX12_picked_22 rfl ?_
      refine g_getf (q0 := 26) (t := 0) (fi := 49) rfl rfl ff_X12_644 dX12_picked_23 rfl (sh_711 hOK8) ?_
      refine g_istore_n (q0 := 27) (j := 3) (lv2 := [_, _, _, _, _, _, _]) rfl dX12_picked_26 (by decide) rfl rfl ?_
      refine g_iconst (q0 := 28) rfl dX12_picked_27 (k := ?_)
      refine g_istore (q0 := 30) (j := 4) (lv2 := [_, _, _, _, _, _, _]) rfl dX12_picked_28 (by decide) rfl rfl ?_
      exact ok_picked_30 hOK8 h
    · replace h := gI_pos h12 h
      refine g_iconst (q0 := 16) rfl dX12_picked_15 (k := ?_)
      rw [← Option.some.inj h]
      refine g_ireturn dX12_picked_16 rfl ⟨Nat.zero_le _, Nat.zero_le _⟩ ?_
      exact ⟨rfl, rfl, rfl⟩
