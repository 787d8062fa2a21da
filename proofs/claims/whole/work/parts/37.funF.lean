-- ==== methods of a class of which others are rows of the machine
theorem gC_ofAF {R : Room} {y : MethodName} {cc : ByteArray} {nL : Nat} {ret : Option FieldType} {av : List gV} {sh : gS} {M : gM} {Q : Option gV → gS → gM → Prop} {lv : List gV}
    (hy : plainFor y = true) (hn : (gSl av).length ≤ nL) (hlv : gSl av ++ List.replicate (nL - (gSl av).length) (9, 0) = lv) (h : gMw sh M → (∀ v ∈ av, gw v) → gA R y cc nL ret Q (0, 0) 0 lv [] sh M) : gC R y cc nL ret av sh M Q := by
  intro l G
  refine va_MetF (cc := cc) (maxL := nL) (ret := ret) hy rfl ?_
  intro p e s m args below meth c s₁ B hml hv
  obtain ⟨rfl, hB, hH, hK, hav⟩ := hv
  have hx := B.exec
  have hb := B.bytes
  have hr := B.returns
  have hts := atoms_spec (ws := .code y cc nL ret :: gAll) B.pre
  have hown : s.vm.findClass y.cls = some m.cls := findClass_of_methodNamed B.named
  have hlocks := B.notSynchronized
  have hnm : meth.name = y.name := (name_of_methodNamed B.named B.method).1
  have hlen := gSl_len G av
  have hl := lv_entry (av.map (gc G)) (n := nL) (by rw [hlen]; exact hn)
  rw [lg_entry_eq]
  generalize (lg_sl (av.map (gc G)) ++ List.replicate (nL - (lg_sl (av.map (gc G))).length) Slot.unset).toArray = ls at hl ⊢
  refine h hH.2.2 hav l G p e s m _ below meth c s.heap [] ls ⟨hx, hb, hml, hr, hown, fun w hw => hts w (List.mem_cons_of_mem _ hw), hlocks, hnm, hK⟩ hH ?_ (fun v hv => by cases hv) ⟨hl.1, hl.2.1, ?_⟩ va_S.rf hB
  · intro v hv
    rw [← hlv] at hv
    rcases List.mem_append.mp hv with q | q
    · exact gSl_w hav v q
    · rw [(List.mem_replicate.mp q).2]; trivial
  · intro q hq
    obtain ⟨j, w⟩ := q
    obtain ⟨v, h1, h9, hw⟩ := gL_mem.mp hq
    rw [← hlv] at h1
    rcases Nat.lt_or_ge j (gSl av).length with hj | hj
    · rw [List.getElem?_append_left hj] at h1
      have hm : (j, w) ∈ gL G ([] ++ gSl av) := gL_mem.mpr ⟨v, h1, h9, hw⟩
      rcases gSl_args G av [] (j, w) hm with ⟨v2, h2⟩ | h2
      · simp at h2
      · exact hl.2.2 _ h2
    · rw [List.getElem?_append_right hj] at h1
      have := List.mem_of_getElem? h1
      rw [(List.mem_replicate.mp this).2] at h9
      exact absurd rfl h9

theorem gFr_r2 (A F : List Int) (M : gM) : gFr A F M M := ⟨fun _ _ _ => rfl, fun _ _ => rfl⟩
-- ==== hundredths
theorem dX12_hundredths_0 : decode cX12_hundredths 0 = .ok (.ldc_w 739, 3) := by decide +kernel
theorem dX12_hundredths_3 : decode cX12_hundredths 3 = .ok (.fload_n 0, 1) := by decide +kernel
theorem dX12_hundredths_4 : decode cX12_hundredths 4 = .ok (.fmul, 1) := by decide +kernel
theorem dX12_hundredths_5 : decode cX12_hundredths 5 = .ok (.f2i, 1) := by decide +kernel
theorem dX12_hundredths_6 : decode cX12_hundredths 6 = .ok (.ireturn, 1) := by decide +kernel
noncomputable def F_hundredths (a0 : Int) : Option (Int) := (if (FP.fmul (gu (gfl 1120403456)) (gu a0)) &&& 0x7fffffff ≤ (0x7f800000 : UInt32) then
    some ((FP.f2i (gu (gfl (FP.fmul (gu (gfl 1120403456)) (gu a0))))).toInt)
  else none)
theorem eq_hundredths (a0 : Int) : F_hundredths a0 = (if (FP.fmul (gu (gfl 1120403456)) (gu a0)) &&& 0x7fffffff ≤ (0x7f800000 : UInt32) then
    some ((FP.f2i (gu (gfl (FP.fmul (gu (gfl 1120403456)) (gu a0))))).toInt)
  else none) := rfl
theorem ok_hundredths {sh : gS} {M : gM} {a0 : Int} {b : Int} (hOK : gOK sh M) (h : F_hundredths a0 = some b) : gC (gr 0 0) yX12_hundredths cX12_hundredths 1 (some (.int)) [(2, a0)] sh M (gPq sh (some (0, b)) M) := by
  rw [eq_hundredths] at h
  refine gC_ofA (lv := [_]) (by decide +kernel) (Nat.le_of_ble_eq_true rfl) rfl (fun hMw hav => ?_)
  refine g_ldcwf (q0 := 3) rfl co_X12_739 dX12_hundredths_0 ?_
  refine g_fload_n (q0 := 4) (j := 0) rfl dX12_hundredths_3 rfl ?_
  obtain ⟨g1, h⟩ := gI_gd h
  refine g_fmul (q0 := 5) rfl dX12_hundredths_4 g1 ?_
  refine g_f2i (q0 := 6) rfl dX12_hundredths_5 ?_
  rw [← Option.some.inj h]
  refine g_ireturn dX12_hundredths_6 rfl ⟨Nat.zero_le _, Nat.zero_le _⟩ ?_
  exact ⟨rfl, rfl, rfl⟩
-- ==== isNaNf
theorem dJxf58ca_isNaN_12338_0 : decode cJxf58ca_isNaN_12338 0 = .ok (.fload_n 0, 1) := by decide +kernel
theorem dJxf58ca_isNaN_12338_1 : decode cJxf58ca_isNaN_12338 1 = .ok (.fload_n 0, 1) := by decide +kernel
theorem dJxf58ca_isNaN_12338_2 : decode cJxf58ca_isNaN_12338 2 = .ok (.fcmp .l, 1) := by decide +kernel
theorem dJxf58ca_isNaN_12338_3 : decode cJxf58ca_isNaN_12338 3 = .ok (.ifCond .eq 7, 3) := by decide +kernel
theorem dJxf58ca_isNaN_12338_6 : decode cJxf58ca_isNaN_12338 6 = .ok (.iconst 1, 1) := by decide +kernel
theorem dJxf58ca_isNaN_12338_7 : decode cJxf58ca_isNaN_12338 7 = .ok (.goto 4, 3) := by decide +kernel
theorem dJxf58ca_isNaN_12338_10 : decode cJxf58ca_isNaN_12338 10 = .ok (.iconst 0, 1) := by decide +kernel
theorem dJxf58ca_isNaN_12338_11 : decode cJxf58ca_isNaN_12338 11 = .ok (.ireturn, 1) := by decide +kernel
noncomputable def F_isNaNf (a0 : Int) : Option (Int) := (if (Op.cmpValue (FP.fcmp (gu a0) (gu a0)) .l).toInt = 0 then
    some 0
  else
    some 1)
theorem eq_isNaNf (a0 : Int) : F_isNaNf a0 = (if (Op.cmpValue (FP.fcmp (gu a0) (gu a0)) .l).toInt = 0 then
    some 0
  else
    some 1) := rfl
theorem bo_isNaNf {a0 : Int} {b : Int} (h : F_isNaNf a0 = some b) : b = 0 ∨ b = 1 := by
  rw [eq_isNaNf] at h
  rcases gI_or h with h | h
  · rw [← Option.some.inj h]
    exact (Or.inl rfl)
  · rw [← Option.some.inj h]
    exact (Or.inr rfl)
theorem ok_isNaNf {sh : gS} {M : gM} {a0 : Int} {b : Int} (hOK : gOK sh M) (h : F_isNaNf a0 = some b) : gC (gr 0 0) yJxf58ca_isNaN_12338 cJxf58ca_isNaN_12338 1 (some (.boolean)) [(2, a0)] sh M (gPq sh (some (0, b)) M) := by
  rw [eq_isNaNf] at h
  refine gC_ofAF (lv := [_]) (by decide +kernel) (Nat.le_of_ble_eq_true rfl) rfl (fun hMw hav => ?_)
  refine g_fload_n (q0 := 1) (j := 0) rfl dJxf58ca_isNaN_12338_0 rfl ?_
  refine g_fload_n (q0 := 2) (j := 0) rfl dJxf58ca_isNaN_12338_1 rfl ?_
  refine g_fcmp (q0 := 3) rfl dJxf58ca_isNaN_12338_2 ?_
  refine g_if_eq (q0 := 6) (tgt := 10) rfl dJxf58ca_isNaN_12338_3 (by decide) (fun h3 => ?_) (fun h3 => ?_)
  · replace h := gI_pos h3 h
    refine g_iconst (q0 := 11) rfl dJxf58ca_isNaN_12338_10 (k := ?_)
    rw [← Option.some.inj h]
    refine g_zreturn dJxf58ca_isNaN_12338_11 rfl (gnz (Or.inl rfl)) ⟨Nat.zero_le _, Nat.zero_le _⟩ ?_
    exact ⟨rfl, rfl, rfl⟩
  · replace h := gI_neg h3 h
    refine g_iconst (q0 := 7) rfl dJxf58ca_isNaN_12338_6 (k := ?_)
    refine g_goto (tgt := 11) dJxf58ca_isNaN_12338_7 (by decide) ?_
    rw [← Option.some.inj h]
    refine g_zreturn dJxf58ca_isNaN_12338_11 rfl (gnz (Or.inr rfl)) ⟨Nat.zero_le _, Nat.zero_le _⟩ ?_
    exact ⟨rfl, rfl, rfl⟩
-- ==== fbits
theorem dJxf58ca_floatToIntBits_5c35a_0 : decode cJxf58ca_floatToIntBits_5c35a 0 = .ok (.fload_n 0, 1) := by decide +kernel
theorem dJxf58ca_floatToIntBits_5c35a_1 : decode cJxf58ca_floatToIntBits_5c35a 1 = .ok (.invokestatic 59, 3) := by decide +kernel
theorem dJxf58ca_floatToIntBits_5c35a_4 : decode cJxf58ca_floatToIntBits_5c35a 4 = .ok (.ifCond .ne 8, 3) := by decide +kernel
theorem dJxf58ca_floatToIntBits_5c35a_7 : decode cJxf58ca_floatToIntBits_5c35a 7 = .ok (.fload_n 0, 1) := by decide +kernel
theorem dJxf58ca_floatToIntBits_5c35a_8 : decode cJxf58ca_floatToIntBits_5c35a 8 = .ok (.invokestatic 74, 3) := by decide +kernel
theorem dJxf58ca_floatToIntBits_5c35a_11 : decode cJxf58ca_floatToIntBits_5c35a 11 = .ok (.ireturn, 1) := by decide +kernel
theorem dJxf58ca_floatToIntBits_5c35a_12 : decode cJxf58ca_floatToIntBits_5c35a 12 = .ok (.ldc 77, 2) := by decide +kernel
theorem dJxf58ca_floatToIntBits_5c35a_14 : decode cJxf58ca_floatToIntBits_5c35a 14 = .ok (.ireturn, 1) := by decide +kernel
noncomputable def F_fbits (a0 : Int) : Option (Int) := (Option.bind (F_isNaNf a0) (fun r1 =>
    (if r1 = 0 then
      some (((gu a0).toInt32).toInt)
    else
      some 2143289344)))
theorem eq_fbits (a0 : Int) : F_fbits a0 = (Option.bind (F_isNaNf a0) (fun r1 =>
    (if r1 = 0 then
      some (((gu a0).toInt32).toInt)
    else
      some 2143289344))) := rfl
theorem ok_fbits {sh : gS} {M : gM} {a0 : Int} {b : Int} (hOK : gOK sh M) (h : F_fbits a0 = some b) : gC (gr 1 68) yJxf58ca_floatToIntBits_5c35a cJxf58ca_floatToIntBits_5c35a 1 (some (.int)) [(2, a0)] sh M (gPq sh (some (0, b)) M) := by
  rw [eq_fbits] at h
  refine gC_ofAF (lv := [_]) (by decide +kernel) (Nat.le_of_ble_eq_true rfl) rfl (fun hMw hav => ?_)
  refine g_fload_n (q0 := 1) (j := 0) rfl dJxf58ca_floatToIntBits_5c35a_0 rfl ?_
  obtain ⟨r1, e1, h⟩ := gI_bd h
  refine g_callSq1 (as := [_]) (rest := []) mt_Jxf58ca_isNaN_12338 ms_Jxf58ca_isNaN_12338 ml_Jxf58ca_59 dJxf58ca_floatToIntBits_5c35a_1 (q0 := 4) rfl rfl (ok_isNaNf hOK e1) rfl ⟨by decide, by decide⟩ (Nat.le_of_ble_eq_true rfl) ⟨Nat.zero_le _, Nat.zero_le _⟩ ?_
  refine g_if_ne (q0 := 7) (tgt := 12) rfl dJxf58ca_floatToIntBits_5c35a_4 (by decide) (fun h4 => ?_) (fun h4 => ?_)
  · replace h := gI_neg h4 h
    refine g_ldc (q0 := 14) (n := 2143289344) rfl co_Jxf58ca_77 dJxf58ca_floatToIntBits_5c35a_12 (k := ?_)
    rw [← Option.some.inj h]
    refine g_ireturn dJxf58ca_floatToIntBits_5c35a_14 rfl ⟨Nat.zero_le _, Nat.zero_le _⟩ ?_
    exact ⟨rfl, rfl, rfl⟩
  · replace h := gI_pos h4 h
    refine g_fload_n (q0 := 8) (j := 0) rfl dJxf58ca_floatToIntBits_5c35a_7 rfl ?_
    refine g_f2bits (q0 := 11) rfl ml_Jxf58ca_74 nat_f2bits sta_f2bits inic_Float dJxf58ca_floatToIntBits_5c35a_8 (by decide) (Nat.le_of_ble_eq_true rfl) ?_
    rw [← Option.some.inj h]
    refine g_ireturn dJxf58ca_floatToIntBits_5c35a_11 rfl ⟨Nat.zero_le _, Nat.zero_le _⟩ ?_
    exact ⟨rfl, rfl, rfl⟩
-- ==== renamed
theorem dX12_renamed_0 : decode cX12_renamed 0 = .ok (.aload_n 0, 1) := by decide +kernel
theorem dX12_renamed_1 : decode cX12_renamed 1 = .ok (.iload_n 1, 1) := by decide +kernel
theorem dX12_renamed_2 : decode cX12_renamed 2 = .ok (.invokevirtual 229, 3) := by decide +kernel
theorem dX12_renamed_5 : decode cX12_renamed 5 = .ok (.ifCond .eq 31, 3) := by decide +kernel
theorem dX12_renamed_8 : decode cX12_renamed 8 = .ok (.aload_n 0, 1) := by decide +kernel
theorem dX12_renamed_9 : decode cX12_renamed 9 = .ok (.iload_n 2, 1) := by decide +kernel
theorem dX12_renamed_10 : decode cX12_renamed 10 = .ok (.invokevirtual 229, 3) := by decide +kernel
theorem dX12_renamed_13 : decode cX12_renamed 13 = .ok (.ifCond .eq 23, 3) := by decide +kernel
theorem dX12_renamed_16 : decode cX12_renamed 16 = .ok (.iload_n 3, 1) := by decide +kernel
theorem dX12_renamed_17 : decode cX12_renamed 17 = .ok (.iconst 0, 1) := by decide +kernel
theorem dX12_renamed_18 : decode cX12_renamed 18 = .ok (.bipush 15, 2) := by decide +kernel
theorem dX12_renamed_20 : decode cX12_renamed 20 = .ok (.invokestatic 182, 3) := by decide +kernel
theorem dX12_renamed_23 : decode cX12_renamed 23 = .ok (.ifCond .eq 13, 3) := by decide +kernel
theorem dX12_renamed_26 : decode cX12_renamed 26 = .ok (.iload 4, 2) := by decide +kernel
theorem dX12_renamed_28 : decode cX12_renamed 28 = .ok (.iconst 0, 1) := by decide +kernel
theorem dX12_renamed_29 : decode cX12_renamed 29 = .ok (.iconst 3, 1) := by decide +kernel
theorem dX12_renamed_30 : decode cX12_renamed 30 = .ok (.invokestatic 182, 3) := by decide +kernel
theorem dX12_renamed_33 : decode cX12_renamed 33 = .ok (.ifCond .ne 5, 3) := by decide +kernel
theorem dX12_renamed_36 : decode cX12_renamed 36 = .ok (.iconst (-1), 1) := by decide +kernel
theorem dX12_renamed_37 : decode cX12_renamed 37 = .ok (.ireturn, 1) := by decide +kernel
theorem dX12_renamed_38 : decode cX12_renamed 38 = .ok (.aload_n 0, 1) := by decide +kernel
theorem dX12_renamed_39 : decode cX12_renamed 39 = .ok (.iload_n 1, 1) := by decide +kernel
theorem dX12_renamed_40 : decode cX12_renamed 40 = .ok (.iload_n 2, 1) := by decide +kernel
theorem dX12_renamed_41 : decode cX12_renamed 41 = .ok (.invokevirtual 736, 3) := by decide +kernel
theorem dX12_renamed_44 : decode cX12_renamed 44 = .ok (.iload_n 3, 1) := by decide +kernel
theorem dX12_renamed_45 : decode cX12_renamed 45 = .ok (.aload_n 0, 1) := by decide +kernel
theorem dX12_renamed_46 : decode cX12_renamed 46 = .ok (.getfield 721, 3) := by decide +kernel
theorem dX12_renamed_49 : decode cX12_renamed 49 = .ok (.if_icmp .lt 6, 3) := by decide +kernel
theorem dX12_renamed_52 : decode cX12_renamed 52 = .ok (.bipush (-4), 2) := by decide +kernel
theorem dX12_renamed_54 : decode cX12_renamed 54 = .ok (.ireturn, 1) := by decide +kernel
theorem dX12_renamed_55 : decode cX12_renamed 55 = .ok (.aload_n 0, 1) := by decide +kernel
theorem dX12_renamed_56 : decode cX12_renamed 56 = .ok (.aload_n 0, 1) := by decide +kernel
theorem dX12_renamed_57 : decode cX12_renamed 57 = .ok (.iload_n 1, 1) := by decide +kernel
theorem dX12_renamed_58 : decode cX12_renamed 58 = .ok (.aload_n 0, 1) := by decide +kernel
theorem dX12_renamed_59 : decode cX12_renamed 59 = .ok (.getfield 129, 3) := by decide +kernel
theorem dX12_renamed_62 : decode cX12_renamed 62 = .ok (.iload_n 3, 1) := by decide +kernel
theorem dX12_renamed_63 : decode cX12_renamed 63 = .ok (.iaload, 1) := by decide +kernel
theorem dX12_renamed_64 : decode cX12_renamed 64 = .ok (.invokevirtual 169, 3) := by decide +kernel
theorem dX12_renamed_67 : decode cX12_renamed 67 = .ok (.aload_n 0, 1) := by decide +kernel
theorem dX12_renamed_68 : decode cX12_renamed 68 = .ok (.iload_n 2, 1) := by decide +kernel
theorem dX12_renamed_69 : decode cX12_renamed 69 = .ok (.aload_n 0, 1) := by decide +kernel
theorem dX12_renamed_70 : decode cX12_renamed 70 = .ok (.getfield 132, 3) := by decide +kernel
theorem dX12_renamed_73 : decode cX12_renamed 73 = .ok (.iload_n 3, 1) := by decide +kernel
theorem dX12_renamed_74 : decode cX12_renamed 74 = .ok (.iaload, 1) := by decide +kernel
theorem dX12_renamed_75 : decode cX12_renamed 75 = .ok (.invokevirtual 169, 3) := by decide +kernel
theorem dX12_renamed_78 : decode cX12_renamed 78 = .ok (.invokevirtual 728, 3) := by decide +kernel
theorem dX12_renamed_81 : decode cX12_renamed 81 = .ok (.fstore 5, 2) := by decide +kernel
theorem dX12_renamed_83 : decode cX12_renamed 83 = .ok (.iload 4, 2) := by decide +kernel
theorem dX12_renamed_85 : decode cX12_renamed 85 = .ok (.ifCond .ne 12, 3) := by decide +kernel
theorem dX12_renamed_88 : decode cX12_renamed 88 = .ok (.aload_n 0, 1) := by decide +kernel
theorem dX12_renamed_89 : decode cX12_renamed 89 = .ok (.getfield 129, 3) := by decide +kernel
theorem dX12_renamed_92 : decode cX12_renamed 92 = .ok (.iload_n 3, 1) := by decide +kernel
theorem dX12_renamed_93 : decode cX12_renamed 93 = .ok (.iaload, 1) := by decide +kernel
theorem dX12_renamed_94 : decode cX12_renamed 94 = .ok (.goto 37, 3) := by decide +kernel
theorem dX12_renamed_97 : decode cX12_renamed 97 = .ok (.iload 4, 2) := by decide +kernel
theorem dX12_renamed_99 : decode cX12_renamed 99 = .ok (.iconst 1, 1) := by decide +kernel
theorem dX12_renamed_100 : decode cX12_renamed 100 = .ok (.if_icmp .ne 12, 3) := by decide +kernel
theorem dX12_renamed_103 : decode cX12_renamed 103 = .ok (.aload_n 0, 1) := by decide +kernel
theorem dX12_renamed_104 : decode cX12_renamed 104 = .ok (.getfield 132, 3) := by decide +kernel
theorem dX12_renamed_107 : decode cX12_renamed 107 = .ok (.iload_n 3, 1) := by decide +kernel
theorem dX12_renamed_108 : decode cX12_renamed 108 = .ok (.iaload, 1) := by decide +kernel
theorem dX12_renamed_109 : decode cX12_renamed 109 = .ok (.goto 22, 3) := by decide +kernel
theorem dX12_renamed_112 : decode cX12_renamed 112 = .ok (.iload 4, 2) := by decide +kernel
theorem dX12_renamed_114 : decode cX12_renamed 114 = .ok (.iconst 2, 1) := by decide +kernel
theorem dX12_renamed_115 : decode cX12_renamed 115 = .ok (.if_icmp .ne 11, 3) := by decide +kernel
theorem dX12_renamed_118 : decode cX12_renamed 118 = .ok (.fload 5, 2) := by decide +kernel
theorem dX12_renamed_120 : decode cX12_renamed 120 = .ok (.invokestatic 740, 3) := by decide +kernel
theorem dX12_renamed_123 : decode cX12_renamed 123 = .ok (.goto 8, 3) := by decide +kernel
theorem dX12_renamed_126 : decode cX12_renamed 126 = .ok (.fload 5, 2) := by decide +kernel
theorem dX12_renamed_128 : decode cX12_renamed 128 = .ok (.invokestatic 746, 3) := by decide +kernel
theorem dX12_renamed_131 : decode cX12_renamed 131 = .ok (.ireturn, 1) := by decide +kernel
noncomputable def F_renamed (M : gM) (a1 a2 a3 a4 : Int) : Option (Int × gM) := (Option.bind (F_isCommit M a1) (fun r2 =>
    (if r2 = 0 then
      some (-1, M)
    else
      (Option.bind (F_isCommit M a2) (fun r10 =>
        (if r10 = 0 then
          some (-1, M)
        else
          (Option.bind (F_in a3 0 15) (fun r20 =>
            (if r20 = 0 then
              some (-1, M)
            else
              (Option.bind (F_in a4 0 3) (fun r30 =>
                (if r30 = 0 then
                  some (-1, M)
                else
                  (Option.bind (F_laysPairs M a1 a2) (fun m41 =>
                    (if a3 < (m41 711 59) then
                      (if 0 ≤ a3 ∧ a3 < 16 then
                        (Option.bind (F_contentAt m41 a1 (m41 751 a3)) (fun r64 =>
                          (Option.bind (F_contentAt m41 a2 (m41 752 a3)) (fun r75 =>
                            (Option.bind (F_likenessOf m41 r64 r75) (fun p78 =>
                              (if a4 = 0 then
                                some ((p78.2 751 a3), p78.2)
                              else
                                (if a4 = 1 then
                                  some ((p78.2 752 a3), p78.2)
                                else
                                  (if a4 = 2 then
                                    (Option.bind (F_fbits p78.1) (fun r120 =>
                                      some (r120, p78.2)))
                                  else
                                    (Option.bind (F_hundredths p78.1) (fun r128 =>
                                      some (r128, p78.2))))))))))))
                      else none)
                    else
                      some (-4, m41))))))))))))))))
theorem eq_renamed (M : gM) (a1 a2 a3 a4 : Int) : F_renamed M a1 a2 a3 a4 = (Option.bind (F_isCommit M a1) (fun r2 =>
    (if r2 = 0 then
      some (-1, M)
    else
      (Option.bind (F_isCommit M a2) (fun r10 =>
        (if r10 = 0 then
          some (-1, M)
        else
          (Option.bind (F_in a3 0 15) (fun r20 =>
            (if r20 = 0 then
              some (-1, M)
            else
              (Option.bind (F_in a4 0 3) (fun r30 =>
                (if r30 = 0 then
                  some (-1, M)
                else
                  (Option.bind (F_laysPairs M a1 a2) (fun m41 =>
                    (if a3 < (m41 711 59) then
                      (if 0 ≤ a3 ∧ a3 < 16 then
                        (Option.bind (F_contentAt m41 a1 (m41 751 a3)) (fun r64 =>
                          (Option.bind (F_contentAt m41 a2 (m41 752 a3)) (fun r75 =>
                            (Option.bind (F_likenessOf m41 r64 r75) (fun p78 =>
                              (if a4 = 0 then
                                some ((p78.2 751 a3), p78.2)
                              else
                                (if a4 = 1 then
                                  some ((p78.2 752 a3), p78.2)
                                else
                                  (if a4 = 2 then
                                    (Option.bind (F_fbits p78.1) (fun r120 =>
                                      some (r120, p78.2)))
                                  else
                                    (Option.bind (F_hundredths p78.1) (fun r128 =>
                                      some (r128, p78.2))))))))))))
                      else none)
                    else
                      some (-4, m41)))))))))))))))) := rfl
theorem fr_renamed {M : gM} {a1 a2 a3 a4 : Int} {b : Int × gM} (h : F_renamed M a1 a2 a3 a4 = some b) : gFr [750, 751, 752] [59] M b.2 := by
  rw [eq_renamed] at h
  obtain ⟨r2, e2, h⟩ := gI_bd h
  rcases gI_or h with h | h
  · rw [← Option.some.inj h]
    exact (gFr_r [750, 751, 752] [59] _)
  · obtain ⟨r10, e10, h⟩ := gI_bd h
    rcases gI_or h with h | h
    · rw [← Option.some.inj h]
      exact (gFr_r [750, 751, 752] [59] _)
    · obtain ⟨r20, e20, h⟩ := gI_bd h
      rcases gI_or h with h | h
      · rw [← Option.some.inj h]
        exact (gFr_r [750, 751, 752] [59] _)
      · obtain ⟨r30, e30, h⟩ := gI_bd h
        rcases gI_or h with h | h
        · rw [← Option.some.inj h]
          exact (gFr_r [750, 751, 752] [59] _)
        · obtain ⟨m41, e41, h⟩ := gI_bd h
          rcases gI_or h with h | h
          · obtain ⟨g2, h⟩ := gI_gd h
            obtain ⟨r64, e64, h⟩ := gI_bd h
            obtain ⟨r75, e75, h⟩ := gI_bd h
            obtain ⟨p78, e78, h⟩ := gI_bd h
            rcases gI_or h with h | h
            · rw [← Option.some.inj h]
              exact (gFr_t (gFr_t (gFr_r [750, 751, 752] [59] _) (fr_laysPairs (b := m41) e41) (by first | decide | simp) (by decide)) (fr_likenessOf (b := p78) e78) (by first | decide | simp) (by decide))
            · rcases gI_or h with h | h
              · rw [← Option.some.inj h]
                exact (gFr_t (gFr_t (gFr_r [750, 751, 752] [59] _) (fr_laysPairs (b := m41) e41) (by first | decide | simp) (by decide)) (fr_likenessOf (b := p78) e78) (by first | decide | simp) (by decide))
              · rcases gI_or h with h | h
                · obtain ⟨r120, e120, h⟩ := gI_bd h
                  rw [← Option.some.inj h]
                  exact (gFr_t (gFr_t (gFr_r [750, 751, 752] [59] _) (fr_laysPairs (b := m41) e41) (by first | decide | simp) (by decide)) (fr_likenessOf (b := p78) e78) (by first | decide | simp) (by decide))
                · obtain ⟨r128, e128, h⟩ := gI_bd h
                  rw [← Option.some.inj h]
                  exact (gFr_t (gFr_t (gFr_r [750, 751, 752] [59] _) (fr_laysPairs (b := m41) e41) (by first | decide | simp) (by decide)) (fr_likenessOf (b := p78) e78) (by first | decide | simp) (by decide))
          · rw [← Option.some.inj h]
            exact (gFr_t (gFr_r [750, 751, 752] [59] _) (fr_laysPairs (b := m41) e41) (by first | decide | simp) (by decide))
theorem ok_renamed {sh : gS} {M : gM} {a1 a2 a3 a4 : Int} {b : Int × gM} (hOK : gOK sh M) (h : F_renamed M a1 a2 a3 a4 = some b) : gC (gr 6 146) yX12_renamed cX12_renamed 6 (some (.int)) [(4, 711), (0, a1), (0, a2), (0, a3), (0, a4)] sh M (gPq sh (some (0, b.1)) b.2) := by
  rw [eq_renamed] at h
  refine gC_ofA (lv := [_, _, _, _, _, _]) (by decide +kernel) (Nat.le_of_ble_eq_true rfl) rfl (fun hMw hav => ?_)
  refine g_aload_n (q0 := 1) (j := 0) rfl dX12_renamed_0 rfl ?_
  refine g_iload_n (q0 := 2) (j := 1) rfl dX12_renamed_1 rfl ?_
  obtain ⟨r2, e2, h⟩ := gI_bd h
  refine g_callVq1 (as := [_]) (rest := []) mt_X12_isCommit mi_X12_isCommit se_X12_isCommit ml_X12_229 dX12_renamed_2 (q0 := 5) rfl rfl (sh_711 hOK) rfl rfl (ok_isCommit hOK e2) rfl ⟨by decide, by decide⟩ (Nat.le_of_ble_eq_true rfl) ⟨Nat.zero_le _, Nat.zero_le _⟩ ?_
  refine g_if_eq (q0 := 8) (tgt := 36) rfl dX12_renamed_5 (by decide) (fun h5 => ?_) (fun h5 => ?_)
  · replace h := gI_pos h5 h
    refine g_iconst (q0 := 37) rfl dX12_renamed_36 (k := ?_)
    rw [← Option.some.inj h]
    refine g_ireturn dX12_renamed_37 rfl ⟨Nat.zero_le _, Nat.zero_le _⟩ ?_
    exact ⟨rfl, rfl, rfl⟩
  · replace h := gI_neg h5 h
    refine g_aload_n (q0 := 9) (j := 0) rfl dX12_renamed_8 rfl ?_
    refine g_iload_n (q0 := 10) (j := 2) rfl dX12_renamed_9 rfl ?_
    obtain ⟨r10, e10, h⟩ := gI_bd h
    refine g_callVq1 (as := [_]) (rest := []) mt_X12_isCommit mi_X12_isCommit se_X12_isCommit ml_X12_229 dX12_renamed_10 (q0 := 13) rfl rfl (sh_711 hOK) rfl rfl (ok_isCommit hOK e10) rfl ⟨by decide, by decide⟩ (Nat.le_of_ble_eq_true rfl) ⟨Nat.zero_le _, Nat.zero_le _⟩ ?_
    refine g_if_eq (q0 := 16) (tgt := 36) rfl dX12_renamed_13 (by decide) (fun h13 => ?_) (fun h13 => ?_)
    · replace h := gI_pos h13 h
      refine g_iconst (q0 := 37) rfl dX12_renamed_36 (k := ?_)
      rw [← Option.some.inj h]
      refine g_ireturn dX12_renamed_37 rfl ⟨Nat.zero_le _, Nat.zero_le _⟩ ?_
      exact ⟨rfl, rfl, rfl⟩
    · replace h := gI_neg h13 h
      refine g_iload_n (q0 := 17) (j := 3) rfl dX12_renamed_16 rfl ?_
      refine g_iconst (q0 := 18) rfl dX12_renamed_17 (k := ?_)
      refine g_bipush (q0 := 20) rfl dX12_renamed_18 (k := ?_)
      obtain ⟨r20, e20, h⟩ := gI_bd h
      refine g_callSq1 (as := [_, _, _]) (rest := []) mt_X12_in ms_X12_in ml_X12_182 dX12_renamed_20 (q0 := 23) rfl rfl (ok_in hOK e20) rfl ⟨by decide, by decide⟩ (Nat.le_of_ble_eq_true rfl) ⟨Nat.zero_le _, Nat.zero_le _⟩ ?_
      refine g_if_eq (q0 := 26) (tgt := 36) rfl dX12_renamed_23 (by decide) (fun h23 => ?_) (fun h23 => ?_)
      · replace h := gI_pos h23 h
        refine g_iconst (q0 := 37) rfl dX12_renamed_36 (k := ?_)
        rw [← Option.some.inj h]
        refine g_ireturn dX12_renamed_37 rfl ⟨Nat.zero_le _, Nat.zero_le _⟩ ?_
        exact ⟨rfl, rfl, rfl⟩
      · replace h := gI_neg h23 h
        refine g_iload (q0 := 28) (j := 4) rfl dX12_renamed_26 rfl ?_
        refine g_iconst (q0 := 29) rfl dX12_renamed_28 (k := ?_)
        refine g_iconst (q0 := 30) rfl dX12_renamed_29 (k := ?_)
        obtain ⟨r30, e30, h⟩ := gI_bd h
        refine g_callSq1 (as := [_, _, _]) (rest := []) mt_X12_in ms_X12_in ml_X12_182 dX12_renamed_30 (q0 := 33) rfl rfl (ok_in hOK e30) rfl ⟨by decide, by decide⟩ (Nat.le_of_ble_eq_true rfl) ⟨Nat.zero_le _, Nat.zero_le _⟩ ?_
        refine g_if_ne (q0 := 36) (tgt := 38) rfl dX12_renamed_33 (by decide) (fun h33 => ?_) (fun h33 => ?_)
        · replace h := gI_neg h33 h
          refine g_aload_n (q0 := 39) (j := 0) rfl dX12_renamed_38 rfl ?_
          refine g_iload_n (q0 := 40) (j := 1) rfl dX12_renamed_39 rfl ?_
          refine g_iload_n (q0 := 41) (j := 2) rfl dX12_renamed_40 rfl ?_
          obtain ⟨m41, e41, h⟩ := gI_bd h
          refine g_callVq0 (as := [_, _]) (rest := []) mt_X12_laysPairs mi_X12_laysPairs se_X12_laysPairs ml_X12_736 dX12_renamed_41 (q0 := 44) rfl rfl (sh_711 hOK) rfl rfl (ok_laysPairs hOK e41) rfl ⟨by decide, by decide⟩ (Nat.le_of_ble_eq_true rfl) ⟨Nat.zero_le _, Nat.zero_le _⟩ ?_
          have hOK1 : gOK sh m41 := gOK_fr hOK (fr_laysPairs (b := m41) e41) (by first | decide | (intro a ha; simp only [List.mem_cons, List.not_mem_nil, or_false] at ha; omega)) (by decide)
          refine g_iload_n (q0 := 45) (j := 3) rfl dX12_renamed_44 rfl ?_
          refine g_aload_n (q0 := 46) (j := 0) rfl dX12_renamed_45 rfl ?_
          refine g_getf (q0 := 49) (t := 0) (fi := 59) rfl rfl ff_X12_721 dX12_renamed_46 rfl (sh_711 hOK1) ?_
          refine g_icmp_lt (q0 := 52) (tgt := 55) rfl dX12_renamed_49 (by decide) (fun h49 => ?_) (fun h49 => ?_)
          · replace h := gI_pos h49 h
            refine g_aload_n (q0 := 56) (j := 0) rfl dX12_renamed_55 rfl ?_
            refine g_aload_n (q0 := 57) (j := 0) rfl dX12_renamed_56 rfl ?_
            refine g_iload_n (q0 := 58) (j := 1) rfl dX12_renamed_57 rfl ?_
            refine g_aload_n (q0 := 59) (j := 0) rfl dX12_renamed_58 rfl ?_
            refine g_getp (q0 := 62) (b := 751) rfl ff_X12_129 dX12_renamed_59 rfl hOK1 (by decide) (sh_711 hOK1) rfl (by decide) ?_
            refine g_iload_n (q0 := 63) (j := 3) rfl dX12_renamed_62 rfl ?_
            obtain ⟨g2, h⟩ := gI_gd h
            refine g_iald (q0 := 64) rfl dX12_renamed_63 (sh_751 hOK1) g2.1 g2.2 ?_
            obtain ⟨r64, e64, h⟩ := gI_bd h
            refine g_callVq1 (as := [_, _]) (rest := [_]) mt_X12_contentAt mi_X12_contentAt se_X12_contentAt ml_X12_169 dX12_renamed_64 (q0 := 67) rfl rfl (sh_711 hOK1) rfl rfl (ok_contentAt hOK1 e64) rfl ⟨by decide, by decide⟩ (Nat.le_of_ble_eq_true rfl) ⟨Nat.zero_le _, Nat.zero_le _⟩ ?_
            refine g_aload_n (q0 := 68) (j := 0) rfl dX12_renamed_67 rfl ?_
            refine g_iload_n (q0 := 69) (j := 2) rfl dX12_renamed_68 rfl ?_
            refine g_aload_n (q0 := 70) (j := 0) rfl dX12_renamed_69 rfl ?_
            refine g_getp (q0 := 73) (b := 752) rfl ff_X12_132 dX12_renamed_70 rfl hOK1 (by decide) (sh_711 hOK1) rfl (by decide) ?_
            refine g_iload_n (q0 := 74) (j := 3) rfl dX12_renamed_73 rfl ?_
            refine g_iald (q0 := 75) rfl dX12_renamed_74 (sh_752 hOK1) g2.1 g2.2 ?_
            obtain ⟨r75, e75, h⟩ := gI_bd h
            refine g_callVq1 (as := [_, _]) (rest := [_, _]) mt_X12_contentAt mi_X12_contentAt se_X12_contentAt ml_X12_169 dX12_renamed_75 (q0 := 78) rfl rfl (sh_711 hOK1) rfl rfl (ok_contentAt hOK1 e75) rfl ⟨by decide, by decide⟩ (Nat.le_of_ble_eq_true rfl) ⟨Nat.zero_le _, Nat.zero_le _⟩ ?_
            obtain ⟨p78, e78, h⟩ := gI_bd h
            refine g_callVq1 (as := [_, _]) (rest := []) mt_X12_likenessOf mi_X12_likenessOf se_X12_likenessOf ml_X12_728 dX12_renamed_78 (q0 := 81) rfl rfl (sh_711 hOK1) rfl rfl (ok_likenessOf hOK1 e78) rfl ⟨by decide, by decide⟩ (Nat.le_of_ble_eq_true rfl) ⟨Nat.zero_le _, Nat.zero_le _⟩ ?_
            have hOK3 : gOK sh p78.2 := gOK_fr hOK1 (fr_likenessOf (b := p78) e78) (by first | decide | (intro a ha; simp only [List.mem_cons, List.not_mem_nil, or_false] at ha; omega)) (by decide)
            refine g_fstore (q0 := 83) (j := 5) (lv2 := [_, _, _, _, _, _]) rfl dX12_renamed_81 (by decide) rfl rfl ?_
            refine g_iload (q0 := 85) (j := 4) rfl dX12_renamed_83 rfl ?_
            refine g_if_ne (q0 := 88) (tgt := 97) rfl dX12_renamed_85 (by decide) (fun h85 => ?_) (fun h85 => ?_)
            · replace h := gI_neg h85 h
              refine g_iload (q0 := 99) (j := 4) rfl dX12_renamed_97 rfl ?_
              refine g_iconst (q0 := 100) rfl dX12_renamed_99 (k := ?_)
              refine g_icmp_ne (q0 := 103) (tgt := 112) rfl dX12_renamed_100 (by decide) (fun h100 => ?_) (fun h100 => ?_)
              · replace h := gI_neg h100 h
                refine g_iload (q0 := 114) (j := 4) rfl dX12_renamed_112 rfl ?_
                refine g_iconst (q0 := 115) rfl dX12_renamed_114 (k := ?_)
                refine g_icmp_ne (q0 := 118) (tgt := 126) rfl dX12_renamed_115 (by decide) (fun h115 => ?_) (fun h115 => ?_)
                · replace h := gI_neg h115 h
                  refine g_fload (q0 := 128) (j := 5) rfl dX12_renamed_126 rfl ?_
                  obtain ⟨r128, e128, h⟩ := gI_bd h
                  refine g_callSq1 (as := [_]) (rest := []) mt_X12_hundredths ms_X12_hundredths ml_X12_746 dX12_renamed_128 (q0 := 131) rfl rfl (ok_hundredths hOK3 e128) rfl ⟨by decide, by decide⟩ (Nat.le_of_ble_eq_true rfl) ⟨Nat.zero_le _, Nat.zero_le _⟩ ?_
                  rw [← Option.some.inj h]
                  refine g_ireturn dX12_renamed_131 rfl ⟨Nat.zero_le _, Nat.zero_le _⟩ ?_
                  exact ⟨rfl, rfl, rfl⟩
                · replace h := gI_pos h115 h
                  refine g_fload (q0 := 120) (j := 5) rfl dX12_renamed_118 rfl ?_
                  obtain ⟨r120, e120, h⟩ := gI_bd h
                  refine g_callSq1 (as := [_]) (rest := []) mt_Jxf58ca_floatToIntBits_5c35a ms_Jxf58ca_floatToIntBits_5c35a ml_X12_740 dX12_renamed_120 (q0 := 123) rfl rfl (ok_fbits hOK3 e120) rfl ⟨by decide, by decide⟩ (Nat.le_of_ble_eq_true rfl) ⟨Nat.zero_le _, Nat.zero_le _⟩ ?_
                  refine g_goto (tgt := 131) dX12_renamed_123 (by decide) ?_
                  rw [← Option.some.inj h]
                  refine g_ireturn dX12_renamed_131 rfl ⟨Nat.zero_le _, Nat.zero_le _⟩ ?_
                  exact ⟨rfl, rfl, rfl⟩
              · replace h := gI_pos h100 h
                refine g_aload_n (q0 := 104) (j := 0) rfl dX12_renamed_103 rfl ?_
                refine g_getp (q0 := 107) (b := 752) rfl ff_X12_132 dX12_renamed_104 rfl hOK3 (by decide) (sh_711 hOK3) rfl (by decide) ?_
                refine g_iload_n (q0 := 108) (j := 3) rfl dX12_renamed_107 rfl ?_
                refine g_iald (q0 := 109) rfl dX12_renamed_108 (sh_752 hOK3) g2.1 g2.2 ?_
                refine g_goto (tgt := 131) dX12_renamed_109 (by decide) ?_
                rw [← Option.some.inj h]
                refine g_ireturn dX12_renamed_131 rfl ⟨Nat.zero_le _, Nat.zero_le _⟩ ?_
                exact ⟨rfl, rfl, rfl⟩
            · replace h := gI_pos h85 h
              refine g_aload_n (q0 := 89) (j := 0) rfl dX12_renamed_88 rfl ?_
              refine g_getp (q0 := 92) (b := 751) rfl ff_X12_129 dX12_renamed_89 rfl hOK3 (by decide) (sh_711 hOK3) rfl (by decide) ?_
              refine g_iload_n (q0 := 93) (j := 3) rfl dX12_renamed_92 rfl ?_
              refine g_iald (q0 := 94) rfl dX12_renamed_93 (sh_751 hOK3) g2.1 g2.2 ?_
              refine g_goto (tgt := 131) dX12_renamed_94 (by decide) ?_
              rw [← Option.some.inj h]
              refine g_ireturn dX12_renamed_131 rfl ⟨Nat.zero_le _, Nat.zero_le _⟩ ?_
              exact ⟨rfl, rfl, rfl⟩
          · replace h := gI_neg (Int.not_lt.mpr h49) h
            refine g_bipush (q0 := 54) rfl dX12_renamed_52 (k := ?_)
            rw [← Option.some.inj h]
            refine g_ireturn dX12_renamed_54 rfl ⟨Nat.zero_le _, Nat.zero_le _⟩ ?_
            exact ⟨rfl, rfl, rfl⟩
        · replace h := gI_pos h33 h
          refine g_iconst (q0 := 37) rfl dX12_renamed_36 (k := ?_)
          rw [← Option.some.inj h]
          refine g_ireturn dX12_renamed_37 rfl ⟨Nat.zero_le _, Nat.zero_le _⟩ ?_
          exact ⟨rfl, rfl, rfl⟩
-- ==== likeness
theorem dX12_likeness_0 : decode cX12_likeness 0 = .ok (.aload_n 0, 1) := by decide +kernel
theorem dX12_likeness_1 : decode cX12_likeness 1 = .ok (.iload_n 1, 1) := by decide +kernel
theorem dX12_likeness_2 : decode cX12_likeness 2 = .ok (.invokevirtual 229, 3) := by decide +kernel
theorem dX12_likeness_5 : decode cX12_likeness 5 = .ok (.ifCond .eq 42, 3) := by decide +kernel
theorem dX12_likeness_8 : decode cX12_likeness 8 = .ok (.aload_n 0, 1) := by decide +kernel
theorem dX12_likeness_9 : decode cX12_likeness 9 = .ok (.iload_n 3, 1) := by decide +kernel
theorem dX12_likeness_10 : decode cX12_likeness 10 = .ok (.invokevirtual 229, 3) := by decide +kernel
theorem dX12_likeness_13 : decode cX12_likeness 13 = .ok (.ifCond .eq 34, 3) := by decide +kernel
theorem dX12_likeness_16 : decode cX12_likeness 16 = .ok (.iload_n 2, 1) := by decide +kernel
theorem dX12_likeness_17 : decode cX12_likeness 17 = .ok (.iconst 0, 1) := by decide +kernel
theorem dX12_likeness_18 : decode cX12_likeness 18 = .ok (.bipush 15, 2) := by decide +kernel
theorem dX12_likeness_20 : decode cX12_likeness 20 = .ok (.invokestatic 182, 3) := by decide +kernel
theorem dX12_likeness_23 : decode cX12_likeness 23 = .ok (.ifCond .eq 24, 3) := by decide +kernel
theorem dX12_likeness_26 : decode cX12_likeness 26 = .ok (.iload 4, 2) := by decide +kernel
theorem dX12_likeness_28 : decode cX12_likeness 28 = .ok (.iconst 0, 1) := by decide +kernel
theorem dX12_likeness_29 : decode cX12_likeness 29 = .ok (.bipush 15, 2) := by decide +kernel
theorem dX12_likeness_31 : decode cX12_likeness 31 = .ok (.invokestatic 182, 3) := by decide +kernel
theorem dX12_likeness_34 : decode cX12_likeness 34 = .ok (.ifCond .eq 13, 3) := by decide +kernel
theorem dX12_likeness_37 : decode cX12_likeness 37 = .ok (.iload 5, 2) := by decide +kernel
theorem dX12_likeness_39 : decode cX12_likeness 39 = .ok (.iconst 0, 1) := by decide +kernel
theorem dX12_likeness_40 : decode cX12_likeness 40 = .ok (.iconst 1, 1) := by decide +kernel
theorem dX12_likeness_41 : decode cX12_likeness 41 = .ok (.invokestatic 182, 3) := by decide +kernel
theorem dX12_likeness_44 : decode cX12_likeness 44 = .ok (.ifCond .ne 5, 3) := by decide +kernel
theorem dX12_likeness_47 : decode cX12_likeness 47 = .ok (.iconst (-1), 1) := by decide +kernel
theorem dX12_likeness_48 : decode cX12_likeness 48 = .ok (.ireturn, 1) := by decide +kernel
theorem dX12_likeness_49 : decode cX12_likeness 49 = .ok (.iload_n 2, 1) := by decide +kernel
theorem dX12_likeness_50 : decode cX12_likeness 50 = .ok (.aload_n 0, 1) := by decide +kernel
theorem dX12_likeness_51 : decode cX12_likeness 51 = .ok (.getfield 28, 3) := by decide +kernel
theorem dX12_likeness_54 : decode cX12_likeness 54 = .ok (.iload_n 1, 1) := by decide +kernel
theorem dX12_likeness_55 : decode cX12_likeness 55 = .ok (.iaload, 1) := by decide +kernel
theorem dX12_likeness_56 : decode cX12_likeness 56 = .ok (.if_icmp .ge 14, 3) := by decide +kernel
theorem dX12_likeness_59 : decode cX12_likeness 59 = .ok (.iload 4, 2) := by decide +kernel
theorem dX12_likeness_61 : decode cX12_likeness 61 = .ok (.aload_n 0, 1) := by decide +kernel
theorem dX12_likeness_62 : decode cX12_likeness 62 = .ok (.getfield 28, 3) := by decide +kernel
theorem dX12_likeness_65 : decode cX12_likeness 65 = .ok (.iload_n 3, 1) := by decide +kernel
theorem dX12_likeness_66 : decode cX12_likeness 66 = .ok (.iaload, 1) := by decide +kernel
theorem dX12_likeness_67 : decode cX12_likeness 67 = .ok (.if_icmp .lt 6, 3) := by decide +kernel
theorem dX12_likeness_70 : decode cX12_likeness 70 = .ok (.bipush (-4), 2) := by decide +kernel
theorem dX12_likeness_72 : decode cX12_likeness 72 = .ok (.ireturn, 1) := by decide +kernel
theorem dX12_likeness_73 : decode cX12_likeness 73 = .ok (.aload_n 0, 1) := by decide +kernel
theorem dX12_likeness_74 : decode cX12_likeness 74 = .ok (.aload_n 0, 1) := by decide +kernel
theorem dX12_likeness_75 : decode cX12_likeness 75 = .ok (.iload_n 1, 1) := by decide +kernel
theorem dX12_likeness_76 : decode cX12_likeness 76 = .ok (.iload_n 2, 1) := by decide +kernel
theorem dX12_likeness_77 : decode cX12_likeness 77 = .ok (.invokevirtual 169, 3) := by decide +kernel
theorem dX12_likeness_80 : decode cX12_likeness 80 = .ok (.aload_n 0, 1) := by decide +kernel
theorem dX12_likeness_81 : decode cX12_likeness 81 = .ok (.iload_n 3, 1) := by decide +kernel
theorem dX12_likeness_82 : decode cX12_likeness 82 = .ok (.iload 4, 2) := by decide +kernel
theorem dX12_likeness_84 : decode cX12_likeness 84 = .ok (.invokevirtual 169, 3) := by decide +kernel
theorem dX12_likeness_87 : decode cX12_likeness 87 = .ok (.invokevirtual 728, 3) := by decide +kernel
theorem dX12_likeness_90 : decode cX12_likeness 90 = .ok (.fstore 6, 2) := by decide +kernel
theorem dX12_likeness_92 : decode cX12_likeness 92 = .ok (.iload 5, 2) := by decide +kernel
theorem dX12_likeness_94 : decode cX12_likeness 94 = .ok (.ifCond .ne 11, 3) := by decide +kernel
theorem dX12_likeness_97 : decode cX12_likeness 97 = .ok (.fload 6, 2) := by decide +kernel
theorem dX12_likeness_99 : decode cX12_likeness 99 = .ok (.invokestatic 740, 3) := by decide +kernel
theorem dX12_likeness_102 : decode cX12_likeness 102 = .ok (.goto 8, 3) := by decide +kernel
theorem dX12_likeness_105 : decode cX12_likeness 105 = .ok (.fload 6, 2) := by decide +kernel
theorem dX12_likeness_107 : decode cX12_likeness 107 = .ok (.invokestatic 746, 3) := by decide +kernel
theorem dX12_likeness_110 : decode cX12_likeness 110 = .ok (.ireturn, 1) := by decide +kernel
noncomputable def F_likeness (M : gM) (a1 a2 a3 a4 a5 : Int) : Option (Int × gM) := (Option.bind (F_isCommit M a1) (fun r2 =>
    (if r2 = 0 then
      some (-1, M)
    else
      (Option.bind (F_isCommit M a3) (fun r10 =>
        (if r10 = 0 then
          some (-1, M)
        else
          (Option.bind (F_in a2 0 15) (fun r20 =>
            (if r20 = 0 then
              some (-1, M)
            else
              (Option.bind (F_in a4 0 15) (fun r31 =>
                (if r31 = 0 then
                  some (-1, M)
                else
                  (Option.bind (F_in a5 0 1) (fun r41 =>
                    (if r41 = 0 then
                      some (-1, M)
                    else
                      (if 0 ≤ a1 ∧ a1 < 123 then
                        (if a2 < (M 718 a1) then
                          (if 0 ≤ a3 ∧ a3 < 123 then
                            (if a4 < (M 718 a3) then
                              (Option.bind (F_contentAt M a1 a2) (fun r77 =>
                                (Option.bind (F_contentAt M a3 a4) (fun r84 =>
                                  (Option.bind (F_likenessOf M r77 r84) (fun p87 =>
                                    (if a5 = 0 then
                                      (Option.bind (F_fbits p87.1) (fun r99 =>
                                        some (r99, p87.2)))
                                    else
                                      (Option.bind (F_hundredths p87.1) (fun r107 =>
                                        some (r107, p87.2))))))))))
                            else
                              some (-4, M))
                          else none)
                        else
                          some (-4, M))
                      else none))))))))))))))))
theorem eq_likeness (M : gM) (a1 a2 a3 a4 a5 : Int) : F_likeness M a1 a2 a3 a4 a5 = (Option.bind (F_isCommit M a1) (fun r2 =>
    (if r2 = 0 then
      some (-1, M)
    else
      (Option.bind (F_isCommit M a3) (fun r10 =>
        (if r10 = 0 then
          some (-1, M)
        else
          (Option.bind (F_in a2 0 15) (fun r20 =>
            (if r20 = 0 then
              some (-1, M)
            else
              (Option.bind (F_in a4 0 15) (fun r31 =>
                (if r31 = 0 then
                  some (-1, M)
                else
                  (Option.bind (F_in a5 0 1) (fun r41 =>
                    (if r41 = 0 then
                      some (-1, M)
                    else
                      (if 0 ≤ a1 ∧ a1 < 123 then
                        (if a2 < (M 718 a1) then
                          (if 0 ≤ a3 ∧ a3 < 123 then
                            (if a4 < (M 718 a3) then
                              (Option.bind (F_contentAt M a1 a2) (fun r77 =>
                                (Option.bind (F_contentAt M a3 a4) (fun r84 =>
                                  (Option.bind (F_likenessOf M r77 r84) (fun p87 =>
                                    (if a5 = 0 then
                                      (Option.bind (F_fbits p87.1) (fun r99 =>
                                        some (r99, p87.2)))
                                    else
                                      (Option.bind (F_hundredths p87.1) (fun r107 =>
                                        some (r107, p87.2))))))))))
                            else
                              some (-4, M))
                          else none)
                        else
                          some (-4, M))
                      else none)))))))))))))))) := rfl
theorem fr_likeness {M : gM} {a1 a2 a3 a4 a5 : Int} {b : Int × gM} (h : F_likeness M a1 a2 a3 a4 a5 = some b) : gFr [750] [] M b.2 := by
  rw [eq_likeness] at h
  obtain ⟨r2, e2, h⟩ := gI_bd h
  rcases gI_or h with h | h
  · rw [← Option.some.inj h]
    exact (gFr_r [750] [] _)
  · obtain ⟨r10, e10, h⟩ := gI_bd h
    rcases gI_or h with h | h
    · rw [← Option.some.inj h]
      exact (gFr_r [750] [] _)
    · obtain ⟨r20, e20, h⟩ := gI_bd h
      rcases gI_or h with h | h
      · rw [← Option.some.inj h]
        exact (gFr_r [750] [] _)
      · obtain ⟨r31, e31, h⟩ := gI_bd h
        rcases gI_or h with h | h
        · rw [← Option.some.inj h]
          exact (gFr_r [750] [] _)
        · obtain ⟨r41, e41, h⟩ := gI_bd h
          rcases gI_or h with h | h
          · rw [← Option.some.inj h]
            exact (gFr_r [750] [] _)
          · obtain ⟨g1, h⟩ := gI_gd h
            rcases gI_or h with h | h
            · obtain ⟨g2, h⟩ := gI_gd h
              rcases gI_or h with h | h
              · obtain ⟨r77, e77, h⟩ := gI_bd h
                obtain ⟨r84, e84, h⟩ := gI_bd h
                obtain ⟨p87, e87, h⟩ := gI_bd h
                rcases gI_or h with h | h
                · obtain ⟨r99, e99, h⟩ := gI_bd h
                  rw [← Option.some.inj h]
                  exact (gFr_t (gFr_r [750] [] _) (fr_likenessOf (b := p87) e87) (by first | decide | simp) (by decide))
                · obtain ⟨r107, e107, h⟩ := gI_bd h
                  rw [← Option.some.inj h]
                  exact (gFr_t (gFr_r [750] [] _) (fr_likenessOf (b := p87) e87) (by first | decide | simp) (by decide))
              · rw [← Option.some.inj h]
                exact (gFr_r [750] [] _)
            · rw [← Option.some.inj h]
              exact (gFr_r [750] [] _)
theorem ok_likeness {sh : gS} {M : gM} {a1 a2 a3 a4 a5 : Int} {b : Int × gM} (hOK : gOK sh M) (h : F_likeness M a1 a2 a3 a4 a5 = some b) : gC (gr 4 95) yX12_likeness cX12_likeness 7 (some (.int)) [(4, 711), (0, a1), (0, a2), (0, a3), (0, a4), (0, a5)] sh M (gPq sh (some (0, b.1)) b.2) := by
  rw [eq_likeness] at h
  refine gC_ofA (lv := [_, _, _, _, _, _, _]) (by decide +kernel) (Nat.le_of_ble_eq_true rfl) rfl (fun hMw hav => ?_)
  refine g_aload_n (q0 := 1) (j := 0) rfl dX12_likeness_0 rfl ?_
  refine g_iload_n (q0 := 2) (j := 1) rfl dX12_likeness_1 rfl ?_
  obtain ⟨r2, e2, h⟩ := gI_bd h
  refine g_callVq1 (as := [_]) (rest := []) mt_X12_isCommit mi_X12_isCommit se_X12_isCommit ml_X12_229 dX12_likeness_2 (q0 := 5) rfl rfl (sh_711 hOK) rfl rfl (ok_isCommit hOK e2) rfl ⟨by decide, by decide⟩ (Nat.le_of_ble_eq_true rfl) ⟨Nat.zero_le _, Nat.zero_le _⟩ ?_
  refine g_if_eq (q0 := 8) (tgt := 47) rfl dX12_likeness_5 (by decide) (fun h5 => ?_) (fun h5 => ?_)
  · replace h := gI_pos h5 h
    refine g_iconst (q0 := 48) rfl dX12_likeness_47 (k := ?_)
    rw [← Option.some.inj h]
    refine g_ireturn dX12_likeness_48 rfl ⟨Nat.zero_le _, Nat.zero_le _⟩ ?_
    exact ⟨rfl, rfl, rfl⟩
  · replace h := gI_neg h5 h
    refine g_aload_n (q0 := 9) (j := 0) rfl dX12_likeness_8 rfl ?_
    refine g_iload_n (q0 := 10) (j := 3) rfl dX12_likeness_9 rfl ?_
    obtain ⟨r10, e10, h⟩ := gI_bd h
    refine g_callVq1 (as := [_]) (rest := []) mt_X12_isCommit mi_X12_isCommit se_X12_isCommit ml_X12_229 dX12_likeness_10 (q0 := 13) rfl rfl (sh_711 hOK) rfl rfl (ok_isCommit hOK e10) rfl ⟨by decide, by decide⟩ (Nat.le_of_ble_eq_true rfl) ⟨Nat.zero_le _, Nat.zero_le _⟩ ?_
    refine g_if_eq (q0 := 16) (tgt := 47) rfl dX12_likeness_13 (by decide) (fun h13 => ?_) (fun h13 => ?_)
    · replace h := gI_pos h13 h
      refine g_iconst (q0 := 48) rfl dX12_likeness_47 (k := ?_)
      rw [← Option.some.inj h]
      refine g_ireturn dX12_likeness_48 rfl ⟨Nat.zero_le _, Nat.zero_le _⟩ ?_
      exact ⟨rfl, rfl, rfl⟩
    · replace h := gI_neg h13 h
      refine g_iload_n (q0 := 17) (j := 2) rfl dX12_likeness_16 rfl ?_
      refine g_iconst (q0 := 18) rfl dX12_likeness_17 (k := ?_)
      refine g_bipush (q0 := 20) rfl dX12_likeness_18 (k := ?_)
      obtain ⟨r20, e20, h⟩ := gI_bd h
      refine g_callSq1 (as := [_, _, _]) (rest := []) mt_X12_in ms_X12_in ml_X12_182 dX12_likeness_20 (q0 := 23) rfl rfl (ok_in hOK e20) rfl ⟨by decide, by decide⟩ (Nat.le_of_ble_eq_true rfl) ⟨Nat.zero_le _, Nat.zero_le _⟩ ?_
      refine g_if_eq (q0 := 26) (tgt := 47) rfl dX12_likeness_23 (by decide) (fun h23 => ?_) (fun h23 => ?_)
      · replace h := gI_pos h23 h
        refine g_iconst (q0 := 48) rfl dX12_likeness_47 (k := ?_)
        rw [← Option.some.inj h]
        refine g_ireturn dX12_likeness_48 rfl ⟨Nat.zero_le _, Nat.zero_le _⟩ ?_
        exact ⟨rfl, rfl, rfl⟩
      · replace h := gI_neg h23 h
        refine g_iload (q0 := 28) (j := 4) rfl dX12_likeness_26 rfl ?_
        refine g_iconst (q0 := 29) rfl dX12_likeness_28 (k := ?_)
        refine g_bipush (q0 := 31) rfl dX12_likeness_29 (k := ?_)
        obtain ⟨r31, e31, h⟩ := gI_bd h
        refine g_callSq1 (as := [_, _, _]) (rest := []) mt_X12_in ms_X12_in ml_X12_182 dX12_likeness_31 (q0 := 34) rfl rfl (ok_in hOK e31) rfl ⟨by decide, by decide⟩ (Nat.le_of_ble_eq_true rfl) ⟨Nat.zero_le _, Nat.zero_le _⟩ ?_
        refine g_if_eq (q0 := 37) (tgt := 47) rfl dX12_likeness_34 (by decide) (fun h34 => ?_) (fun h34 => ?_)
        · replace h := gI_pos h34 h
          refine g_iconst (q0 := 48) rfl dX12_likeness_47 (k := ?_)
          rw [← Option.some.inj h]
          refine g_ireturn dX12_likeness_48 rfl ⟨Nat.zero_le _, Nat.zero_le _⟩ ?_
          exact ⟨rfl, rfl, rfl⟩
        · replace h := gI_neg h34 h
          refine g_iload (q0 := 39) (j := 5) rfl dX12_likeness_37 rfl ?_
          refine g_iconst (q0 := 40) rfl dX12_likeness_39 (k := ?_)
          refine g_iconst (q0 := 41) rfl dX12_likeness_40 (k := ?_)
          obtain ⟨r41, e41, h⟩ := gI_bd h
          refine g_callSq1 (as := [_, _, _]) (rest := []) mt_X12_in ms_X12_in ml_X12_182 dX12_likeness_41 (q0 := 44) rfl rfl (ok_in hOK e41) rfl ⟨by decide, by decide⟩ (Nat.le_of_ble_eq_true rfl) ⟨Nat.zero_le _, Nat.zero_le _⟩ ?_
          refine g_if_ne (q0 := 47) (tgt := 49) rfl dX12_likeness_44 (by decide) (fun h44 => ?_) (fun h44 => ?_)
          · replace h := gI_neg h44 h
            refine g_iload_n (q0 := 50) (j := 2) rfl dX12_likeness_49 rfl ?_
            refine g_aload_n (q0 := 51) (j := 0) rfl dX12_likeness_50 rfl ?_
            refine g_getp (q0 := 54) (b := 718) rfl ff_X12_28 dX12_likeness_51 rfl hOK (by decide) (sh_711 hOK) rfl (by decide) ?_
            refine g_iload_n (q0 := 55) (j := 1) rfl dX12_likeness_54 rfl ?_
            obtain ⟨g1, h⟩ := gI_gd h
            refine g_iald (q0 := 56) rfl dX12_likeness_55 (sh_718 hOK) g1.1 g1.2 ?_
            refine g_icmp_ge (q0 := 59) (tgt := 70) rfl dX12_likeness_56 (by decide) (fun h56 => ?_) (fun h56 => ?_)
            · replace h := gI_neg (Int.not_lt.mpr h56) h
              refine g_bipush (q0 := 72) rfl dX12_likeness_70 (k := ?_)
              rw [← Option.some.inj h]
              refine g_ireturn dX12_likeness_72 rfl ⟨Nat.zero_le _, Nat.zero_le _⟩ ?_
              exact ⟨rfl, rfl, rfl⟩
            · replace h := gI_pos h56 h
              refine g_iload (q0 := 61) (j := 4) rfl dX12_likeness_59 rfl ?_
              refine g_aload_n (q0 := 62) (j := 0) rfl dX12_likeness_61 rfl ?_
              refine g_getp (q0 := 65) (b := 718) rfl ff_X12_28 dX12_likeness_62 rfl hOK (by decide) (sh_711 hOK) rfl (by decide) ?_
              refine g_iload_n (q0 := 66) (j := 3) rfl dX12_likeness_65 rfl ?_
              obtain ⟨g2, h⟩ := gI_gd h
              refine g_iald (q0 := 67) rfl dX12_likeness_66 (sh_718 hOK) g2.1 g2.2 ?_
              refine g_icmp_lt (q0 := 70) (tgt := 73) rfl dX12_likeness_67 (by decide) (fun h67 => ?_) (fun h67 => ?_)
              · replace h := gI_pos h67 h
                refine g_aload_n (q0 := 74) (j := 0) rfl dX12_likeness_73 rfl ?_
                refine g_aload_n (q0 := 75) (j := 0) rfl dX12_likeness_74 rfl ?_
                refine g_iload_n (q0 := 76) (j := 1) rfl dX12_likeness_75 rfl ?_
                refine g_iload_n (q0 := 77) (j := 2) rfl dX12_likeness_76 rfl ?_
                obtain ⟨r77, e77, h⟩ := gI_bd h
                refine g_callVq1 (as := [_, _]) (rest := [_]) mt_X12_contentAt mi_X12_contentAt se_X12_contentAt ml_X12_169 dX12_likeness_77 (q0 := 80) rfl rfl (sh_711 hOK) rfl rfl (ok_contentAt hOK e77) rfl ⟨by decide, by decide⟩ (Nat.le_of_ble_eq_true rfl) ⟨Nat.zero_le _, Nat.zero_le _⟩ ?_
                refine g_aload_n (q0 := 81) (j := 0) rfl dX12_likeness_80 rfl ?_
                refine g_iload_n (q0 := 82) (j := 3) rfl dX12_likeness_81 rfl ?_
                refine g_iload (q0 := 84) (j := 4) rfl dX12_likeness_82 rfl ?_
                obtain ⟨r84, e84, h⟩ := gI_bd h
                refine g_callVq1 (as := [_, _]) (rest := [_, _]) mt_X12_contentAt mi_X12_contentAt se_X12_contentAt ml_X12_169 dX12_likeness_84 (q0 := 87) rfl rfl (sh_711 hOK) rfl rfl (ok_contentAt hOK e84) rfl ⟨by decide, by decide⟩ (Nat.le_of_ble_eq_true rfl) ⟨Nat.zero_le _, Nat.zero_le _⟩ ?_
                obtain ⟨p87, e87, h⟩ := gI_bd h
                refine g_callVq1 (as := [_, _]) (rest := []) mt_X12_likenessOf mi_X12_likenessOf se_X12_likenessOf ml_X12_728 dX12_likeness_87 (q0 := 90) rfl rfl (sh_711 hOK) rfl rfl (ok_likenessOf hOK e87) rfl ⟨by decide, by decide⟩ (Nat.le_of_ble_eq_true rfl) ⟨Nat.zero_le _, Nat.zero_le _⟩ ?_
                have hOK3 : gOK sh p87.2 := gOK_fr hOK (fr_likenessOf (b := p87) e87) (by first | decide | (intro a ha; simp only [List.mem_cons, List.not_mem_nil, or_false] at ha; omega)) (by decide)
                refine g_fstore (q0 := 92) (j := 6) (lv2 := [_, _, _, _, _, _, _]) rfl dX12_likeness_90 (by decide) rfl rfl ?_
                refine g_iload (q0 := 94) (j := 5) rfl dX12_likeness_92 rfl ?_
                refine g_if_ne (q0 := 97) (tgt := 105) rfl dX12_likeness_94 (by decide) (fun h94 => ?_) (fun h94 => ?_)
                · replace h := gI_neg h94 h
                  refine g_fload (q0 := 107) (j := 6) rfl dX12_likeness_105 rfl ?_
                  obtain ⟨r107, e107, h⟩ := gI_bd h
                  refine g_callSq1 (as := [_]) (rest := []) mt_X12_hundredths ms_X12_hundredths ml_X12_746 dX12_likeness_107 (q0 := 110) rfl rfl (ok_hundredths hOK3 e107) rfl ⟨by decide, by decide⟩ (Nat.le_of_ble_eq_true rfl) ⟨Nat.zero_le _, Nat.zero_le _⟩ ?_
                  rw [← Option.some.inj h]
                  refine g_ireturn dX12_likeness_110 rfl ⟨Nat.zero_le _, Nat.zero_le _⟩ ?_
                  exact ⟨rfl, rfl, rfl⟩
                · replace h := gI_pos h94 h
                  refine g_fload (q0 := 99) (j := 6) rfl dX12_likeness_97 rfl ?_
                  obtain ⟨r99, e99, h⟩ := gI_bd h
                  refine g_callSq1 (as := [_]) (rest := []) mt_Jxf58ca_floatToIntBits_5c35a ms_Jxf58ca_floatToIntBits_5c35a ml_X12_740 dX12_likeness_99 (q0 := 102) rfl rfl (ok_fbits hOK3 e99) rfl ⟨by decide, by decide⟩ (Nat.le_of_ble_eq_true rfl) ⟨Nat.zero_le _, Nat.zero_le _⟩ ?_
                  refine g_goto (tgt := 110) dX12_likeness_102 (by decide) ?_
                  rw [← Option.some.inj h]
                  refine g_ireturn dX12_likeness_110 rfl ⟨Nat.zero_le _, Nat.zero_le _⟩ ?_
                  exact ⟨rfl, rfl, rfl⟩
              · replace h := gI_neg (Int.not_lt.mpr h67) h
                refine g_bipush (q0 := 72) rfl dX12_likeness_70 (k := ?_)
                rw [← Option.some.inj h]
                refine g_ireturn dX12_likeness_72 rfl ⟨Nat.zero_le _, Nat.zero_le _⟩ ?_
                exact ⟨rfl, rfl, rfl⟩
          · replace h := gI_pos h44 h
            refine g_iconst (q0 := 48) rfl dX12_likeness_47 (k := ?_)
            rw [← Option.some.inj h]
            refine g_ireturn dX12_likeness_48 rfl ⟨Nat.zero_le _, Nat.zero_le _⟩ ?_
            exact ⟨rfl, rfl, rfl⟩
-- ==== steps
theorem dX12_steps_0 : decode cX12_steps 0 = .ok (.aload_n 0, 1) := by decide +kernel
theorem dX12_steps_1 : decode cX12_steps 1 = .ok (.aload_n 0, 1) := by decide +kernel
theorem dX12_steps_2 : decode cX12_steps 2 = .ok (.getfield 749, 3) := by decide +kernel
theorem dX12_steps_5 : decode cX12_steps 5 = .ok (.aload_n 0, 1) := by decide +kernel
theorem dX12_steps_6 : decode cX12_steps 6 = .ok (.getfield 752, 3) := by decide +kernel
theorem dX12_steps_9 : decode cX12_steps 9 = .ok (.invokevirtual 169, 3) := by decide +kernel
theorem dX12_steps_12 : decode cX12_steps 12 = .ok (.istore 4, 2) := by decide +kernel
theorem dX12_steps_14 : decode cX12_steps 14 = .ok (.aload_n 0, 1) := by decide +kernel
theorem dX12_steps_15 : decode cX12_steps 15 = .ok (.iload_n 1, 1) := by decide +kernel
theorem dX12_steps_16 : decode cX12_steps 16 = .ok (.iload_n 2, 1) := by decide +kernel
theorem dX12_steps_17 : decode cX12_steps 17 = .ok (.invokevirtual 169, 3) := by decide +kernel
theorem dX12_steps_20 : decode cX12_steps 20 = .ok (.istore 5, 2) := by decide +kernel
theorem dX12_steps_22 : decode cX12_steps 22 = .ok (.iload 4, 2) := by decide +kernel
theorem dX12_steps_24 : decode cX12_steps 24 = .ok (.iload 5, 2) := by decide +kernel
theorem dX12_steps_26 : decode cX12_steps 26 = .ok (.if_icmp .eq 13, 3) := by decide +kernel
theorem dX12_steps_29 : decode cX12_steps 29 = .ok (.aload_n 0, 1) := by decide +kernel
theorem dX12_steps_30 : decode cX12_steps 30 = .ok (.aload_n 0, 1) := by decide +kernel
theorem dX12_steps_31 : decode cX12_steps 31 = .ok (.getfield 755, 3) := by decide +kernel
theorem dX12_steps_34 : decode cX12_steps 34 = .ok (.iconst 1, 1) := by decide +kernel
theorem dX12_steps_35 : decode cX12_steps 35 = .ok (.iadd, 1) := by decide +kernel
theorem dX12_steps_36 : decode cX12_steps 36 = .ok (.putfield 755, 3) := by decide +kernel
theorem dX12_steps_39 : decode cX12_steps 39 = .ok (.iload_n 3, 1) := by decide +kernel
theorem dX12_steps_40 : decode cX12_steps 40 = .ok (.ifCond .eq 13, 3) := by decide +kernel
theorem dX12_steps_43 : decode cX12_steps 43 = .ok (.aload_n 0, 1) := by decide +kernel
theorem dX12_steps_44 : decode cX12_steps 44 = .ok (.aload_n 0, 1) := by decide +kernel
theorem dX12_steps_45 : decode cX12_steps 45 = .ok (.getfield 758, 3) := by decide +kernel
theorem dX12_steps_48 : decode cX12_steps 48 = .ok (.iconst 1, 1) := by decide +kernel
theorem dX12_steps_49 : decode cX12_steps 49 = .ok (.iadd, 1) := by decide +kernel
theorem dX12_steps_50 : decode cX12_steps 50 = .ok (.putfield 758, 3) := by decide +kernel
theorem dX12_steps_53 : decode cX12_steps 53 = .ok (.aload_n 0, 1) := by decide +kernel
theorem dX12_steps_54 : decode cX12_steps 54 = .ok (.aload_n 0, 1) := by decide +kernel
theorem dX12_steps_55 : decode cX12_steps 55 = .ok (.getfield 761, 3) := by decide +kernel
theorem dX12_steps_58 : decode cX12_steps 58 = .ok (.aload_n 0, 1) := by decide +kernel
theorem dX12_steps_59 : decode cX12_steps 59 = .ok (.iload 5, 2) := by decide +kernel
theorem dX12_steps_61 : decode cX12_steps 61 = .ok (.iload 4, 2) := by decide +kernel
theorem dX12_steps_63 : decode cX12_steps 63 = .ok (.invokevirtual 728, 3) := by decide +kernel
theorem dX12_steps_66 : decode cX12_steps 66 = .ok (.fmul, 1) := by decide +kernel
theorem dX12_steps_67 : decode cX12_steps 67 = .ok (.putfield 761, 3) := by decide +kernel
theorem dX12_steps_70 : decode cX12_steps 70 = .ok (.aload_n 0, 1) := by decide +kernel
theorem dX12_steps_71 : decode cX12_steps 71 = .ok (.iload_n 1, 1) := by decide +kernel
theorem dX12_steps_72 : decode cX12_steps 72 = .ok (.putfield 749, 3) := by decide +kernel
theorem dX12_steps_75 : decode cX12_steps 75 = .ok (.aload_n 0, 1) := by decide +kernel
theorem dX12_steps_76 : decode cX12_steps 76 = .ok (.iload_n 2, 1) := by decide +kernel
theorem dX12_steps_77 : decode cX12_steps 77 = .ok (.putfield 752, 3) := by decide +kernel
theorem dX12_steps_80 : decode cX12_steps 80 = .ok (.return_, 1) := by decide +kernel
noncomputable def st_steps : Nat × List Int × gM → Option ((Nat × List Int × gM) ⊕ (gM))
  | (0, [x1, x2, x3, x4, x5], M) => (if x3 = 0 then
      (Option.bind (F_likenessOf M x5 x4) (fun p63 =>
        (if (FP.fmul (gu (M 711 64)) (gu p63.1)) &&& 0x7fffffff ≤ (0x7f800000 : UInt32) then
          some (.inr (gU (gU (gU p63.2 711 64 (gfl (FP.fmul (gu (M 711 64)) (gu p63.1)))) 711 60 x1) 711 61 x2))
        else none)))
    else
      (Option.bind (F_likenessOf (gU M 711 63 (gw32 ((M 711 63) + (1 : Int)))) x5 x4) (fun p63 =>
        (if (FP.fmul (gu ((gU M 711 63 (gw32 ((M 711 63) + (1 : Int)))) 711 64)) (gu p63.1)) &&& 0x7fffffff ≤ (0x7f800000 : UInt32) then
          some (.inr (gU (gU (gU p63.2 711 64 (gfl (FP.fmul (gu ((gU M 711 63 (gw32 ((M 711 63) + (1 : Int)))) 711 64)) (gu p63.1)))) 711 60 x1) 711 61 x2))
        else none))))
  | _ => none
theorem sk_steps_39 (k : Nat × List Int × gM → Option (gM)) (M : gM) (x1 x2 x3 x4 x5 : Int) : gWk k (st_steps (0, [x1, x2, x3, x4, x5], M)) = (if x3 = 0 then
    (Option.bind (F_likenessOf M x5 x4) (fun p63 =>
      (if (FP.fmul (gu (M 711 64)) (gu p63.1)) &&& 0x7fffffff ≤ (0x7f800000 : UInt32) then
        some (gU (gU (gU p63.2 711 64 (gfl (FP.fmul (gu (M 711 64)) (gu p63.1)))) 711 60 x1) 711 61 x2)
      else none)))
  else
    (Option.bind (F_likenessOf (gU M 711 63 (gw32 ((M 711 63) + (1 : Int)))) x5 x4) (fun p63 =>
      (if (FP.fmul (gu ((gU M 711 63 (gw32 ((M 711 63) + (1 : Int)))) 711 64)) (gu p63.1)) &&& 0x7fffffff ≤ (0x7f800000 : UInt32) then
        some (gU (gU (gU p63.2 711 64 (gfl (FP.fmul (gu ((gU M 711 63 (gw32 ((M 711 63) + (1 : Int)))) 711 64)) (gu p63.1)))) 711 60 x1) 711 61 x2)
      else none)))) := by
  simp only [st_steps, gWk_ite, gWk_bind, gWk_inl, gWk_inr, gWk_none]
noncomputable def F_steps_39 (M : gM) (x1 x2 x3 x4 x5 : Int) : Option (gM) := gWh (st_steps) (0, [x1, x2, x3, x4, x5], M)
theorem eq_steps_39 (M : gM) (x1 x2 x3 x4 x5 : Int) : F_steps_39 M x1 x2 x3 x4 x5 = (if x3 = 0 then
    (Option.bind (F_likenessOf M x5 x4) (fun p63 =>
      (if (FP.fmul (gu (M 711 64)) (gu p63.1)) &&& 0x7fffffff ≤ (0x7f800000 : UInt32) then
        some (gU (gU (gU p63.2 711 64 (gfl (FP.fmul (gu (M 711 64)) (gu p63.1)))) 711 60 x1) 711 61 x2)
      else none)))
  else
    (Option.bind (F_likenessOf (gU M 711 63 (gw32 ((M 711 63) + (1 : Int)))) x5 x4) (fun p63 =>
      (if (FP.fmul (gu ((gU M 711 63 (gw32 ((M 711 63) + (1 : Int)))) 711 64)) (gu p63.1)) &&& 0x7fffffff ≤ (0x7f800000 : UInt32) then
        some (gU (gU (gU p63.2 711 64 (gfl (FP.fmul (gu ((gU M 711 63 (gw32 ((M 711 63) + (1 : Int)))) 711 64)) (gu p63.1)))) 711 60 x1) 711 61 x2)
      else none)))) := (gWh_eq _).trans (sk_steps_39 _ M x1 x2 x3 x4 x5)
noncomputable def F_steps (M : gM) (a1 a2 a3 : Int) : Option (gM) := (Option.bind (F_contentAt M (M 711 60) (M 711 61)) (fun r9 =>
    (Option.bind (F_contentAt M a1 a2) (fun r17 =>
      (if r9 = r17 then
        F_steps_39 M a1 a2 a3 r9 r17
      else
        F_steps_39 (gU M 711 62 (gw32 ((M 711 62) + (1 : Int)))) a1 a2 a3 r9 r17)))))
theorem eq_steps (M : gM) (a1 a2 a3 : Int) : F_steps M a1 a2 a3 = (Option.bind (F_contentAt M (M 711 60) (M 711 61)) (fun r9 =>
    (Option.bind (F_contentAt M a1 a2) (fun r17 =>
      (if r9 = r17 then
        F_steps_39 M a1 a2 a3 r9 r17
      else
        F_steps_39 (gU M 711 62 (gw32 ((M 711 62) + (1 : Int)))) a1 a2 a3 r9 r17))))) := rfl
theorem frp_steps : ∀ (s : Nat × List Int × gM) (b : gM), gWh (st_steps) s = some b → (∀ (x1 x2 x3 x4 x5 : Int) (M : gM), s = (0, [x1, x2, x3, x4, x5], M) → gFr [750] [60, 61, 62, 63, 64] M b) := by
  refine gWh_ind (fun k hk s b h => ?_)
  · rintro x1 x2 x3 x4 x5 M rfl
    rw [sk_steps_39] at h
    rcases gI_or h with h | h
    · obtain ⟨p63, e63, h⟩ := gI_bd h
      obtain ⟨g2, h⟩ := gI_gd h
      rw [← Option.some.inj h]
      exact (gFr_f (gFr_f (gFr_f (gFr_t (gFr_r [750] [60, 61, 62, 63, 64] _) (fr_likenessOf (b := p63) e63) (by first | decide | simp) (by decide)) (.tail _ (.tail _ (.tail _ (.tail _ (.head _)))))) (.head _)) (.tail _ (.head _)))
    · obtain ⟨p63, e63, h⟩ := gI_bd h
      obtain ⟨g8, h⟩ := gI_gd h
      rw [← Option.some.inj h]
      exact (gFr_f (gFr_f (gFr_f (gFr_t (gFr_f (gFr_r [750] [60, 61, 62, 63, 64] _) (.tail _ (.tail _ (.tail _ (.head _))))) (fr_likenessOf (b := p63) e63) (by first | decide | simp) (by decide)) (.tail _ (.tail _ (.tail _ (.tail _ (.head _)))))) (.head _)) (.tail _ (.head _)))
theorem fr_steps_39 {M : gM} {x1 x2 x3 x4 x5 : Int} {b : gM} (h : F_steps_39 M x1 x2 x3 x4 x5 = some b) : gFr [750] [60, 61, 62, 63, 64] M b :=
  (frp_steps _ _ h) _ _ _ _ _ _ rfl
theorem fr_steps {M : gM} {a1 a2 a3 : Int} {b : gM} (h : F_steps M a1 a2 a3 = some b) : gFr [750] [60, 61, 62, 63, 64] M b := by
  rw [eq_steps] at h
  obtain ⟨r9, e9, h⟩ := gI_bd h
  obtain ⟨r17, e17, h⟩ := gI_bd h
  rcases gI_or h with h | h
  · exact gFr_t (gFr_r [750] [60, 61, 62, 63, 64] _) (fr_steps_39 h) (fun _ z => z) (fun _ z => z)
  · exact gFr_t (gFr_f (gFr_r [750] [60, 61, 62, 63, 64] _) (.tail _ (.tail _ (.head _)))) (fr_steps_39 h) (fun _ z => z) (fun _ z => z)
theorem okp_steps {sh : gS} : ∀ (s : Nat × List Int × gM) (b : gM), gWh (st_steps) s = some b → (∀ (x1 x2 x3 x4 x5 : Int) (M : gM), s = (0, [x1, x2, x3, x4, x5], M) → gOK sh M → gA (gr 4 95) yX12_steps cX12_steps 6 none (gPq sh none b) (0, 0) 39 [(4, 711), (0, x1), (0, x2), (0, x3), (0, x4), (0, x5)] [] sh M) := by
  refine gWh_ind (fun k hk s b h => ?_)
  · rintro x1 x2 x3 x4 x5 M rfl hOK
    rw [sk_steps_39] at h
    refine g_iload_n (q0 := 40) (j := 3) rfl dX12_steps_39 rfl ?_
    refine g_if_eq (q0 := 43) (tgt := 53) rfl dX12_steps_40 (by decide) (fun h40 => ?_) (fun h40 => ?_)
    · replace h := gI_pos h40 h
      refine g_aload_n (q0 := 54) (j := 0) rfl dX12_steps_53 rfl ?_
      refine g_aload_n (q0 := 55) (j := 0) rfl dX12_steps_54 rfl ?_
      refine g_getf (q0 := 58) (t := 2) (fi := 64) rfl rfl ff_X12_761 dX12_steps_55 rfl (sh_711 hOK) ?_
      refine g_aload_n (q0 := 59) (j := 0) rfl dX12_steps_58 rfl ?_
      refine g_iload (q0 := 61) (j := 5) rfl dX12_steps_59 rfl ?_
      refine g_iload (q0 := 63) (j := 4) rfl dX12_steps_61 rfl ?_
      obtain ⟨p63, e63, h⟩ := gI_bd h
      refine g_callVq1 (as := [_, _]) (rest := [_, _]) mt_X12_likenessOf mi_X12_likenessOf se_X12_likenessOf ml_X12_728 dX12_steps_63 (q0 := 66) rfl rfl (sh_711 hOK) rfl rfl (ok_likenessOf hOK e63) rfl ⟨by decide, by decide⟩ (Nat.le_of_ble_eq_true rfl) ⟨Nat.zero_le _, Nat.zero_le _⟩ ?_
      have hOK1 : gOK sh p63.2 := gOK_fr hOK (fr_likenessOf (b := p63) e63) (by first | decide | (intro a ha; simp only [List.mem_cons, List.not_mem_nil, or_false] at ha; omega)) (by decide)
      obtain ⟨g2, h⟩ := gI_gd h
      refine g_fmul (q0 := 67) rfl dX12_steps_66 g2 ?_
      refine g_put (q0 := 70) (t := 2) (fi := 64) rfl rfl ff_X12_761 dX12_steps_67 rfl (sh_711 hOK1) rfl (fun _ => ⟨rfl, rfl⟩) ?_
      have hOK3 : gOK sh (gU p63.2 711 64 (gfl (FP.fmul (gu (M 711 64)) (gu p63.1)))) := gOK_o hOK1 (sh_711 hOK1) (f := 64) rfl rfl
      refine g_aload_n (q0 := 71) (j := 0) rfl dX12_steps_70 rfl ?_
      refine g_iload_n (q0 := 72) (j := 1) rfl dX12_steps_71 rfl ?_
      refine g_put (q0 := 75) (t := 0) (fi := 60) rfl rfl ff_X12_749 dX12_steps_72 rfl (sh_711 hOK3) rfl (fun _ => ⟨rfl, rfl⟩) ?_
      have hOK4 : gOK sh (gU (gU p63.2 711 64 (gfl (FP.fmul (gu (M 711 64)) (gu p63.1)))) 711 60 x1) := gOK_o hOK3 (sh_711 hOK3) (f := 60) rfl rfl
      refine g_aload_n (q0 := 76) (j := 0) rfl dX12_steps_75 rfl ?_
      refine g_iload_n (q0 := 77) (j := 2) rfl dX12_steps_76 rfl ?_
      refine g_put (q0 := 80) (t := 0) (fi := 61) rfl rfl ff_X12_752 dX12_steps_77 rfl (sh_711 hOK4) rfl (fun _ => ⟨rfl, rfl⟩) ?_
      have hOK5 : gOK sh (gU (gU (gU p63.2 711 64 (gfl (FP.fmul (gu (M 711 64)) (gu p63.1)))) 711 60 x1) 711 61 x2) := gOK_o hOK4 (sh_711 hOK4) (f := 61) rfl rfl
      rw [← Option.some.inj h]
      refine g_return dX12_steps_80 rfl ⟨Nat.zero_le _, Nat.zero_le _⟩ ?_
      exact ⟨rfl, rfl, rfl⟩
    · replace h := gI_neg h40 h
      refine g_aload_n (q0 := 44) (j := 0) rfl dX12_steps_43 rfl ?_
      refine g_aload_n (q0 := 45) (j := 0) rfl dX12_steps_44 rfl ?_
      refine g_getf (q0 := 48) (t := 0) (fi := 63) rfl rfl ff_X12_758 dX12_steps_45 rfl (sh_711 hOK) ?_
      refine g_iconst (q0 := 49) rfl dX12_steps_48 (k := ?_)
      refine g_iaddw (q0 := 50) rfl dX12_steps_49 ?_
      refine g_put (q0 := 53) (t := 0) (fi := 63) rfl rfl ff_X12_758 dX12_steps_50 rfl (sh_711 hOK) rfl (fun _ => ⟨rfl, rfl⟩) ?_
      have hOK6 : gOK sh (gU M 711 63 (gw32 ((M 711 63) + (1 : Int)))) := gOK_o hOK (sh_711 hOK) (f := 63) rfl rfl
      refine g_aload_n (q0 := 54) (j := 0) rfl dX12_steps_53 rfl ?_
      refine g_aload_n (q0 := 55) (j := 0) rfl dX12_steps_54 rfl ?_
      refine g_getf (q0 := 58) (t := 2) (fi := 64) rfl rfl ff_X12_761 dX12_steps_55 rfl (sh_711 hOK6) ?_
      refine g_aload_n (q0 := 59) (j := 0) rfl dX12_steps_58 rfl ?_
      refine g_iload (q0 := 61) (j := 5) rfl dX12_steps_59 rfl ?_
      refine g_iload (q0 := 63) (j := 4) rfl dX12_steps_61 rfl ?_
      obtain ⟨p63, e63, h⟩ := gI_bd h
      refine g_callVq1 (as := [_, _]) (rest := [_, _]) mt_X12_likenessOf mi_X12_likenessOf se_X12_likenessOf ml_X12_728 dX12_steps_63 (q0 := 66) rfl rfl (sh_711 hOK6) rfl rfl (ok_likenessOf hOK6 e63) rfl ⟨by decide, by decide⟩ (Nat.le_of_ble_eq_true rfl) ⟨Nat.zero_le _, Nat.zero_le _⟩ ?_
      have hOK7 : gOK sh p63.2 := gOK_fr hOK6 (fr_likenessOf (b := p63) e63) (by first | decide | (intro a ha; simp only [List.mem_cons, List.not_mem_nil, or_false] at ha; omega)) (by decide)
      obtain ⟨g8, h⟩ := gI_gd h
      refine g_fmul (q0 := 67) rfl dX12_steps_66 g8 ?_
      refine g_put (q0 := 70) (t := 2) (fi := 64) rfl rfl ff_X12_761 dX12_steps_67 rfl (sh_711 hOK7) rfl (fun _ => ⟨rfl, rfl⟩) ?_
      have hOK9 : gOK sh (gU p63.2 711 64 (gfl (FP.fmul (gu ((gU M 711 63 (gw32 ((M 711 63) + (1 : Int)))) 711 64)) (gu p63.1)))) := gOK_o hOK7 (sh_711 hOK7) (f := 64) rfl rfl
      refine g_aload_n (q0 := 71) (j := 0) rfl dX12_steps_70 rfl ?_
      refine g_iload_n (q0 := 72) (j := 1) rfl dX12_steps_71 rfl ?_
      refine g_put (q0 := 75) (t := 0) (fi := 60) rfl rfl ff_X12_749 dX12_steps_72 rfl (sh_711 hOK9) rfl (fun _ => ⟨rfl, rfl⟩) ?_
      have hOK10 : gOK sh (gU (gU p63.2 711 64 (gfl (FP.fmul (gu ((gU M 711 63 (gw32 ((M 711 63) + (1 : Int)))) 711 64)) (gu p63.1)))) 711 60 x1) := gOK_o hOK9 (sh_711 hOK9) (f := 60) rfl rfl
      refine g_aload_n (q0 := 76) (j := 0) rfl dX12_steps_75 rfl ?_
      refine g_iload_n (q0 := 77) (j := 2) rfl dX12_steps_76 rfl ?_
      refine g_put (q0 := 80) (t := 0) (fi := 61) rfl rfl ff_X12_752 dX12_steps_77 rfl (sh_711 hOK10) rfl (fun _ => ⟨rfl, rfl⟩) ?_
      have hOK11 : gOK sh (gU (gU (gU p63.2 711 64 (gfl (FP.fmul (gu ((gU M 711 63 (gw32 ((M 711 63) + (1 : Int)))) 711 64)) (gu p63.1)))) 711 60 x1) 711 61 x2) := gOK_o hOK10 (sh_711 hOK10) (f := 61) rfl rfl
      rw [← Option.some.inj h]
      refine g_return dX12_steps_80 rfl ⟨Nat.zero_le _, Nat.zero_le _⟩ ?_
      exact ⟨rfl, rfl, rfl⟩
theorem ok_steps_39 {sh : gS} {M : gM} {x1 x2 x3 x4 x5 : Int} {b : gM} (hOK : gOK sh M) (h : F_steps_39 M x1 x2 x3 x4 x5 = some b) : gA (gr 4 95) yX12_steps cX12_steps 6 none (gPq sh none b) (0, 0) 39 [(4, 711), (0, x1), (0, x2), (0, x3), (0, x4), (0, x5)] [] sh M :=
  (okp_steps _ _ h) _ _ _ _ _ _ rfl hOK
theorem ok_steps {sh : gS} {M : gM} {a1 a2 a3 : Int} {b : gM} (hOK : gOK sh M) (h : F_steps M a1 a2 a3 = some b) : gC (gr 4 95) yX12_steps cX12_steps 6 none [(4, 711), (0, a1), (0, a2), (0, a3)] sh M (gPq sh none b) := by
  rw [eq_steps] at h
  refine gC_ofA (lv := [_, _, _, _, _, _]) (by decide +kernel) (Nat.le_of_ble_eq_true rfl) rfl (fun hMw hav => ?_)
  refine g_aload_n (q0 := 1) (j := 0) rfl dX12_steps_0 rfl ?_
  refine g_aload_n (q0 := 2) (j := 0) rfl dX12_steps_1 rfl ?_
  refine g_getf (q0 := 5) (t := 0) (fi := 60) rfl rfl ff_X12_749 dX12_steps_2 rfl (sh_711 hOK) ?_
  refine g_aload_n (q0 := 6) (j := 0) rfl dX12_steps_5 rfl ?_
  refine g_getf (q0 := 9) (t := 0) (fi := 61) rfl rfl ff_X12_752 dX12_steps_6 rfl (sh_711 hOK) ?_
  obtain ⟨r9, e9, h⟩ := gI_bd h
  refine g_callVq1 (as := [_, _]) (rest := []) mt_X12_contentAt mi_X12_contentAt se_X12_contentAt ml_X12_169 dX12_steps_9 (q0 := 12) rfl rfl (sh_711 hOK) rfl rfl (ok_contentAt hOK e9) rfl ⟨by decide, by decide⟩ (Nat.le_of_ble_eq_true rfl) ⟨Nat.zero_le _, Nat.zero_le _⟩ ?_
  refine g_istore (q0 := 14) (j := 4) (lv2 := [_, _, _, _, _, _]) rfl dX12_steps_12 (by decide) rfl rfl ?_
  refine g_aload_n (q0 := 15) (j := 0) rfl dX12_steps_14 rfl ?_
  refine g_iload_n (q0 := 16) (j := 1) rfl dX12_steps_15 rfl ?_
  refine g_iload_n (q0 := 17) (j := 2) rfl dX12_steps_16 rfl ?_
  obtain ⟨r17, e17, h⟩ := gI_bd h
  refine g_callVq1 (as := [_, _]) (rest := []) mt_X12_contentAt mi_X12_contentAt se_X12_contentAt ml_X12_169 dX12_steps_17 (q0 := 20) rfl rfl (sh_711 hOK) rfl rfl (ok_contentAt hOK e17) rfl ⟨by decide, by decide⟩ (Nat.le_of_ble_eq_true rfl) ⟨Nat.zero_le _, Nat.zero_le _⟩ ?_
  refine g_istore (q0 := 22) (j := 5) (lv2 := [_, _, _, _, _, _]) rfl dX12_steps_20 (by decide) rfl rfl ?_
  refine g_iload (q0 := 24) (j := 4) rfl dX12_steps_22 rfl ?_
  refine g_iload (q0 := 26) (j := 5) rfl dX12_steps_24 rfl ?_
  refine g_icmp_eq (q0 := 29) (tgt := 39) rfl dX12_steps_26 (by decide) (fun h26 => ?_) (fun h26 => ?_)
  · replace h := gI_pos h26 h
    exact ok_steps_39 hOK h
  · replace h := gI_neg h26 h
    refine g_aload_n (q0 := 30) (j := 0) rfl dX12_steps_29 rfl ?_
    refine g_aload_n (q0 := 31) (j := 0) rfl dX12_steps_30 rfl ?_
    refine g_getf (q0 := 34) (t := 0) (fi := 62) rfl rfl ff_X12_755 dX12_steps_31 rfl (sh_711 hOK) ?_
    refine g_iconst (q0 := 35) rfl dX12_steps_34 (k := ?_)
    refine g_iaddw (q0 := 36) rfl dX12_steps_35 ?_
    refine g_put (q0 := 39) (t := 0) (fi := 62) rfl rfl ff_X12_755 dX12_steps_36 rfl (sh_711 hOK) rfl (fun _ => ⟨rfl, rfl⟩) ?_
    have hOK12 : gOK sh (gU M 711 62 (gw32 ((M 711 62) + (1 : Int)))) := gOK_o hOK (sh_711 hOK) (f := 62) rfl rfl
    exact ok_steps_39 hOK12 h
-- ==== stepsByPath
theorem dX12_stepsByPath_0 : decode cX12_stepsByPath 0 = .ok (.aload_n 0, 1) := by decide +kernel
theorem dX12_stepsByPath_1 : decode cX12_stepsByPath 1 = .ok (.aload_n 0, 1) := by decide +kernel
theorem dX12_stepsByPath_2 : decode cX12_stepsByPath 2 = .ok (.getfield 749, 3) := by decide +kernel
theorem dX12_stepsByPath_5 : decode cX12_stepsByPath 5 = .ok (.aload_n 0, 1) := by decide +kernel
theorem dX12_stepsByPath_6 : decode cX12_stepsByPath 6 = .ok (.getfield 752, 3) := by decide +kernel
theorem dX12_stepsByPath_9 : decode cX12_stepsByPath 9 = .ok (.invokevirtual 162, 3) := by decide +kernel
theorem dX12_stepsByPath_12 : decode cX12_stepsByPath 12 = .ok (.istore_n 1, 1) := by decide +kernel
theorem dX12_stepsByPath_13 : decode cX12_stepsByPath 13 = .ok (.iconst 0, 1) := by decide +kernel
theorem dX12_stepsByPath_14 : decode cX12_stepsByPath 14 = .ok (.istore_n 2, 1) := by decide +kernel
theorem dX12_stepsByPath_15 : decode cX12_stepsByPath 15 = .ok (.iload_n 2, 1) := by decide +kernel
theorem dX12_stepsByPath_16 : decode cX12_stepsByPath 16 = .ok (.aload_n 0, 1) := by decide +kernel
theorem dX12_stepsByPath_17 : decode cX12_stepsByPath 17 = .ok (.getfield 7, 3) := by decide +kernel
theorem dX12_stepsByPath_20 : decode cX12_stepsByPath 20 = .ok (.aload_n 0, 1) := by decide +kernel
theorem dX12_stepsByPath_21 : decode cX12_stepsByPath 21 = .ok (.getfield 749, 3) := by decide +kernel
theorem dX12_stepsByPath_24 : decode cX12_stepsByPath 24 = .ok (.iaload, 1) := by decide +kernel
theorem dX12_stepsByPath_25 : decode cX12_stepsByPath 25 = .ok (.if_icmp .ge 43, 3) := by decide +kernel
theorem dX12_stepsByPath_28 : decode cX12_stepsByPath 28 = .ok (.aload_n 0, 1) := by decide +kernel
theorem dX12_stepsByPath_29 : decode cX12_stepsByPath 29 = .ok (.aload_n 0, 1) := by decide +kernel
theorem dX12_stepsByPath_30 : decode cX12_stepsByPath 30 = .ok (.getfield 749, 3) := by decide +kernel
theorem dX12_stepsByPath_33 : decode cX12_stepsByPath 33 = .ok (.iload_n 2, 1) := by decide +kernel
theorem dX12_stepsByPath_34 : decode cX12_stepsByPath 34 = .ok (.invokevirtual 192, 3) := by decide +kernel
theorem dX12_stepsByPath_37 : decode cX12_stepsByPath 37 = .ok (.istore_n 3, 1) := by decide +kernel
theorem dX12_stepsByPath_38 : decode cX12_stepsByPath 38 = .ok (.aload_n 0, 1) := by decide +kernel
theorem dX12_stepsByPath_39 : decode cX12_stepsByPath 39 = .ok (.iload_n 3, 1) := by decide +kernel
theorem dX12_stepsByPath_40 : decode cX12_stepsByPath 40 = .ok (.iload_n 1, 1) := by decide +kernel
theorem dX12_stepsByPath_41 : decode cX12_stepsByPath 41 = .ok (.invokevirtual 166, 3) := by decide +kernel
theorem dX12_stepsByPath_44 : decode cX12_stepsByPath 44 = .ok (.iconst (-1), 1) := by decide +kernel
theorem dX12_stepsByPath_45 : decode cX12_stepsByPath 45 = .ok (.if_icmp .eq 17, 3) := by decide +kernel
theorem dX12_stepsByPath_48 : decode cX12_stepsByPath 48 = .ok (.aload_n 0, 1) := by decide +kernel
theorem dX12_stepsByPath_49 : decode cX12_stepsByPath 49 = .ok (.iload_n 3, 1) := by decide +kernel
theorem dX12_stepsByPath_50 : decode cX12_stepsByPath 50 = .ok (.aload_n 0, 1) := by decide +kernel
theorem dX12_stepsByPath_51 : decode cX12_stepsByPath 51 = .ok (.iload_n 3, 1) := by decide +kernel
theorem dX12_stepsByPath_52 : decode cX12_stepsByPath 52 = .ok (.iload_n 1, 1) := by decide +kernel
theorem dX12_stepsByPath_53 : decode cX12_stepsByPath 53 = .ok (.invokevirtual 166, 3) := by decide +kernel
theorem dX12_stepsByPath_56 : decode cX12_stepsByPath 56 = .ok (.iconst 0, 1) := by decide +kernel
theorem dX12_stepsByPath_57 : decode cX12_stepsByPath 57 = .ok (.invokevirtual 765, 3) := by decide +kernel
theorem dX12_stepsByPath_60 : decode cX12_stepsByPath 60 = .ok (.iconst 1, 1) := by decide +kernel
theorem dX12_stepsByPath_61 : decode cX12_stepsByPath 61 = .ok (.ireturn, 1) := by decide +kernel
theorem dX12_stepsByPath_62 : decode cX12_stepsByPath 62 = .ok (.iinc 2 1, 3) := by decide +kernel
theorem dX12_stepsByPath_65 : decode cX12_stepsByPath 65 = .ok (.goto (-50), 3) := by decide +kernel
theorem dX12_stepsByPath_68 : decode cX12_stepsByPath 68 = .ok (.iconst 0, 1) := by decide +kernel
theorem dX12_stepsByPath_69 : decode cX12_stepsByPath 69 = .ok (.ireturn, 1) := by decide +kernel
noncomputable def st_stepsByPath : Nat × List Int × gM → Option ((Nat × List Int × gM) ⊕ (Int × gM))
  | (0, [x1, x2], M) => (if 0 ≤ (M 711 60) ∧ (M 711 60) < 120 then
      (if x2 < (M 712 (M 711 60)) then
        (Option.bind (F_parentAt M (M 711 60) x2) (fun r34 =>
          (Option.bind (F_fileAt M r34 x1) (fun r41 =>
            (if r41 = -1 then
              some (.inl (0, [x1, (gw32 (x2 + 1))], M))
            else
              (Option.bind (F_fileAt M r34 x1) (fun r53 =>
                (Option.bind (F_steps M r34 r53 0) (fun m57 =>
                  some (.inr (1, m57)))))))))))
      else
        some (.inr (0, M)))
    else none)
  | _ => none
theorem sk_stepsByPath_15 (k : Nat × List Int × gM → Option (Int × gM)) (M : gM) (x1 x2 : Int) : gWk k (st_stepsByPath (0, [x1, x2], M)) = (if 0 ≤ (M 711 60) ∧ (M 711 60) < 120 then
    (if x2 < (M 712 (M 711 60)) then
      (Option.bind (F_parentAt M (M 711 60) x2) (fun r34 =>
        (Option.bind (F_fileAt M r34 x1) (fun r41 =>
          (if r41 = -1 then
            k (0, [x1, (gw32 (x2 + 1))], M)
          else
            (Option.bind (F_fileAt M r34 x1) (fun r53 =>
              (Option.bind (F_steps M r34 r53 0) (fun m57 =>
                some (1, m57))))))))))
    else
      some (0, M))
  else none) := by
  simp only [st_stepsByPath, gWk_ite, gWk_bind, gWk_inl, gWk_inr, gWk_none]
noncomputable def F_stepsByPath_15 (M : gM) (x1 x2 : Int) : Option (Int × gM) := gWh (st_stepsByPath) (0, [x1, x2], M)
theorem eq_stepsByPath_15 (M : gM) (x1 x2 : Int) : F_stepsByPath_15 M x1 x2 = (if 0 ≤ (M 711 60) ∧ (M 711 60) < 120 then
    (if x2 < (M 712 (M 711 60)) then
      (Option.bind (F_parentAt M (M 711 60) x2) (fun r34 =>
        (Option.bind (F_fileAt M r34 x1) (fun r41 =>
          (if r41 = -1 then
            F_stepsByPath_15 M x1 (gw32 (x2 + 1))
          else
            (Option.bind (F_fileAt M r34 x1) (fun r53 =>
              (Option.bind (F_steps M r34 r53 0) (fun m57 =>
                some (1, m57))))))))))
    else
      some (0, M))
  else none) := (gWh_eq _).trans (sk_stepsByPath_15 _ M x1 x2)
noncomputable def F_stepsByPath (M : gM) : Option (Int × gM) := (Option.bind (F_pathAt M (M 711 60) (M 711 61)) (fun r9 =>
    F_stepsByPath_15 M r9 0))
theorem eq_stepsByPath (M : gM) : F_stepsByPath M = (Option.bind (F_pathAt M (M 711 60) (M 711 61)) (fun r9 =>
    F_stepsByPath_15 M r9 0)) := rfl
theorem frp_stepsByPath : ∀ (s : Nat × List Int × gM) (b : Int × gM), gWh (st_stepsByPath) s = some b → (∀ (x1 x2 : Int) (M : gM), s = (0, [x1, x2], M) → gFr [750] [60, 61, 62, 63, 64] M b.2) := by
  refine gWh_ind (fun k hk s b h => ?_)
  · rintro x1 x2 M rfl
    rw [sk_stepsByPath_15] at h
    obtain ⟨g1, h⟩ := gI_gd h
    rcases gI_or h with h | h
    · obtain ⟨r34, e34, h⟩ := gI_bd h
      obtain ⟨r41, e41, h⟩ := gI_bd h
      rcases gI_or h with h | h
      · exact gFr_t (gFr_r [750] [60, 61, 62, 63, 64] _) ((hk _ _ h) _ _ _ rfl) (fun _ z => z) (fun _ z => z)
      · obtain ⟨r53, e53, h⟩ := gI_bd h
        obtain ⟨m57, e57, h⟩ := gI_bd h
        rw [← Option.some.inj h]
        exact (gFr_t (gFr_r [750] [60, 61, 62, 63, 64] _) (fr_steps (b := m57) e57) (by first | decide | simp) (by decide))
    · rw [← Option.some.inj h]
      exact (gFr_r [750] [60, 61, 62, 63, 64] _)
theorem fr_stepsByPath_15 {M : gM} {x1 x2 : Int} {b : Int × gM} (h : F_stepsByPath_15 M x1 x2 = some b) : gFr [750] [60, 61, 62, 63, 64] M b.2 :=
  (frp_stepsByPath _ _ h) _ _ _ rfl
theorem fr_stepsByPath {M : gM} {b : Int × gM} (h : F_stepsByPath M = some b) : gFr [750] [60, 61, 62, 63, 64] M b.2 := by
  rw [eq_stepsByPath] at h
  obtain ⟨r9, e9, h⟩ := gI_bd h
  exact gFr_t (gFr_r [750] [60, 61, 62, 63, 64] _) (fr_stepsByPath_15 h) (fun _ z => z) (fun _ z => z)
theorem bop_stepsByPath : ∀ (s : Nat × List Int × gM) (b : Int × gM), gWh (st_stepsByPath) s = some b → (∀ (x1 x2 : Int) (M : gM), s = (0, [x1, x2], M) → b.1 = 0 ∨ b.1 = 1) := by
  refine gWh_ind (fun k hk s b h => ?_)
  · rintro x1 x2 M rfl
    rw [sk_stepsByPath_15] at h
    obtain ⟨g1, h⟩ := gI_gd h
    rcases gI_or h with h | h
    · obtain ⟨r34, e34, h⟩ := gI_bd h
      obtain ⟨r41, e41, h⟩ := gI_bd h
      rcases gI_or h with h | h
      · exact (hk _ _ h) _ _ _ rfl
      · obtain ⟨r53, e53, h⟩ := gI_bd h
        obtain ⟨m57, e57, h⟩ := gI_bd h
        rw [← Option.some.inj h]
        exact (Or.inr rfl)
    · rw [← Option.some.inj h]
      exact (Or.inl rfl)
theorem bo_stepsByPath_15 {M : gM} {x1 x2 : Int} {b : Int × gM} (h : F_stepsByPath_15 M x1 x2 = some b) : b.1 = 0 ∨ b.1 = 1 :=
  (bop_stepsByPath _ _ h) _ _ _ rfl
theorem bo_stepsByPath {M : gM} {b : Int × gM} (h : F_stepsByPath M = some b) : b.1 = 0 ∨ b.1 = 1 := by
  rw [eq_stepsByPath] at h
  obtain ⟨r9, e9, h⟩ := gI_bd h
  exact bo_stepsByPath_15 h
theorem okp_stepsByPath {sh : gS} : ∀ (s : Nat × List Int × gM) (b : Int × gM), gWh (st_stepsByPath) s = some b → (∀ (x1 x2 : Int) (M : gM), s = (0, [x1, x2], M) → gOK sh M → gA (gr 5 120) yX12_stepsByPath cX12_stepsByPath 4 (some (.boolean)) (gPq sh (some (0, b.1)) b.2) (0, 0) 15 [(4, 711), (0, x1), (0, x2), (9, 0)] [] sh M) := by
  refine gWh_ind (fun k hk s b h => ?_)
  · rintro x1 x2 M rfl hOK
    rw [sk_stepsByPath_15] at h
    refine g_iload_n (q0 := 16) (j := 2) rfl dX12_stepsByPath_15 rfl ?_
    refine g_aload_n (q0 := 17) (j := 0) rfl dX12_stepsByPath_16 rfl ?_
    refine g_getp (q0 := 20) (b := 712) rfl ff_X12_7 dX12_stepsByPath_17 rfl hOK (by decide) (sh_711 hOK) rfl (by decide) ?_
    refine g_aload_n (q0 := 21) (j := 0) rfl dX12_stepsByPath_20 rfl ?_
    refine g_getf (q0 := 24) (t := 0) (fi := 60) rfl rfl ff_X12_749 dX12_stepsByPath_21 rfl (sh_711 hOK) ?_
    obtain ⟨g1, h⟩ := gI_gd h
    refine g_iald (q0 := 25) rfl dX12_stepsByPath_24 (sh_712 hOK) g1.1 g1.2 ?_
    refine g_icmp_ge (q0 := 28) (tgt := 68) rfl dX12_stepsByPath_25 (by decide) (fun h25 => ?_) (fun h25 => ?_)
    · replace h := gI_neg (Int.not_lt.mpr h25) h
      refine g_iconst (q0 := 69) rfl dX12_stepsByPath_68 (k := ?_)
      rw [← Option.some.inj h]
      refine g_zreturn dX12_stepsByPath_69 rfl (gnz (Or.inl rfl)) ⟨Nat.zero_le _, Nat.zero_le _⟩ ?_
      exact ⟨rfl, rfl, rfl⟩
    · replace h := gI_pos h25 h
      refine g_aload_n (q0 := 29) (j := 0) rfl dX12_stepsByPath_28 rfl ?_
      refine g_aload_n (q0 := 30) (j := 0) rfl dX12_stepsByPath_29 rfl ?_
      refine g_getf (q0 := 33) (t := 0) (fi := 60) rfl rfl ff_X12_749 dX12_stepsByPath_30 rfl (sh_711 hOK) ?_
      refine g_iload_n (q0 := 34) (j := 2) rfl dX12_stepsByPath_33 rfl ?_
      obtain ⟨r34, e34, h⟩ := gI_bd h
      refine g_callVq1 (as := [_, _]) (rest := []) mt_X12_parentAt mi_X12_parentAt se_X12_parentAt ml_X12_192 dX12_stepsByPath_34 (q0 := 37) rfl rfl (sh_711 hOK) rfl rfl (ok_parentAt hOK e34) rfl ⟨by decide, by decide⟩ (Nat.le_of_ble_eq_true rfl) ⟨Nat.zero_le _, Nat.zero_le _⟩ ?_
      refine g_istore_n (q0 := 38) (j := 3) (lv2 := [_, _, _, _]) rfl dX12_stepsByPath_37 (by decide) rfl rfl ?_
      refine g_aload_n (q0 := 39) (j := 0) rfl dX12_stepsByPath_38 rfl ?_
      refine g_iload_n (q0 := 40) (j := 3) rfl dX12_stepsByPath_39 rfl ?_
      refine g_iload_n (q0 := 41) (j := 1) rfl dX12_stepsByPath_40 rfl ?_
      obtain ⟨r41, e41, h⟩ := gI_bd h
      refine g_callVq1 (as := [_, _]) (rest := []) mt_X12_fileAt mi_X12_fileAt se_X12_fileAt ml_X12_166 dX12_stepsByPath_41 (q0 := 44) rfl rfl (sh_711 hOK) rfl rfl (ok_fileAt hOK e41) rfl ⟨by decide, by decide⟩ (Nat.le_of_ble_eq_true rfl) ⟨Nat.zero_le _, Nat.zero_le _⟩ ?_
      refine g_iconst (q0 := 45) rfl dX12_stepsByPath_44 (k := ?_)
      refine g_icmp_eq (q0 := 48) (tgt := 62) rfl dX12_stepsByPath_45 (by decide) (fun h45 => ?_) (fun h45 => ?_)
      · replace h := gI_pos h45 h
        refine g_iincw (q0 := 65) (lv2 := [_, _, _, _]) rfl dX12_stepsByPath_62 rfl (by decide) rfl rfl ?_
        refine g_goto (tgt := 15) dX12_stepsByPath_65 (by decide) ?_
        refine gA_jk (lv1 := [_, _, _, (9, 0)]) ⟨.inl rfl, .inl rfl, .inl rfl, .inr rfl, trivial⟩ ?_
        exact (hk _ _ h) _ _ _ rfl hOK
      · replace h := gI_neg h45 h
        refine g_aload_n (q0 := 49) (j := 0) rfl dX12_stepsByPath_48 rfl ?_
        refine g_iload_n (q0 := 50) (j := 3) rfl dX12_stepsByPath_49 rfl ?_
        refine g_aload_n (q0 := 51) (j := 0) rfl dX12_stepsByPath_50 rfl ?_
        refine g_iload_n (q0 := 52) (j := 3) rfl dX12_stepsByPath_51 rfl ?_
        refine g_iload_n (q0 := 53) (j := 1) rfl dX12_stepsByPath_52 rfl ?_
        obtain ⟨r53, e53, h⟩ := gI_bd h
        refine g_callVq1 (as := [_, _]) (rest := [_, _]) mt_X12_fileAt mi_X12_fileAt se_X12_fileAt ml_X12_166 dX12_stepsByPath_53 (q0 := 56) rfl rfl (sh_711 hOK) rfl rfl (ok_fileAt hOK e53) rfl ⟨by decide, by decide⟩ (Nat.le_of_ble_eq_true rfl) ⟨Nat.zero_le _, Nat.zero_le _⟩ ?_
        refine g_iconst (q0 := 57) rfl dX12_stepsByPath_56 (k := ?_)
        obtain ⟨m57, e57, h⟩ := gI_bd h
        refine g_callVq0 (as := [_, _, _]) (rest := []) mt_X12_steps mi_X12_steps se_X12_steps ml_X12_765 dX12_stepsByPath_57 (q0 := 60) rfl rfl (sh_711 hOK) rfl rfl (ok_steps hOK e57) rfl ⟨by decide, by decide⟩ (Nat.le_of_ble_eq_true rfl) ⟨Nat.zero_le _, Nat.zero_le _⟩ ?_
        have hOK2 : gOK sh m57 := gOK_fr hOK (fr_steps (b := m57) e57) (by first | decide | (intro a ha; simp only [List.mem_cons, List.not_mem_nil, or_false] at ha; omega)) (by decide)
        refine g_iconst (q0 := 61) rfl dX12_stepsByPath_60 (k := ?_)
        rw [← Option.some.inj h]
        refine g_zreturn dX12_stepsByPath_61 rfl (gnz (Or.inr rfl)) ⟨Nat.zero_le _, Nat.zero_le _⟩ ?_
        exact ⟨rfl, rfl, rfl⟩
theorem ok_stepsByPath_15 {sh : gS} {M : gM} {x1 x2 : Int} {b : Int × gM} (hOK : gOK sh M) (h : F_stepsByPath_15 M x1 x2 = some b) : gA (gr 5 120) yX12_stepsByPath cX12_stepsByPath 4 (some (.boolean)) (gPq sh (some (0, b.1)) b.2) (0, 0) 15 [(4, 711), (0, x1), (0, x2), (9, 0)] [] sh M :=
  (okp_stepsByPath _ _ h) _ _ _ rfl hOK
theorem ok_stepsByPath {sh : gS} {M : gM} {b : Int × gM} (hOK : gOK sh M) (h : F_stepsByPath M = some b) : gC (gr 5 120) yX12_stepsByPath cX12_stepsByPath 4 (some (.boolean)) [(4, 711)] sh M (gPq sh (some (0, b.1)) b.2) := by
  rw [eq_stepsByPath] at h
  refine gC_ofA (lv := [_, _, _, _]) (by decide +kernel) (Nat.le_of_ble_eq_true rfl) rfl (fun hMw hav => ?_)
  refine g_aload_n (q0 := 1) (j := 0) rfl dX12_stepsByPath_0 rfl ?_
  refine g_aload_n (q0 := 2) (j := 0) rfl dX12_stepsByPath_1 rfl ?_
  refine g_getf (q0 := 5) (t := 0) (fi := 60) rfl rfl ff_X12_749 dX12_stepsByPath_2 rfl (sh_711 hOK) ?_
  refine g_aload_n (q0 := 6) (j := 0) rfl dX12_stepsByPath_5 rfl ?_
  refine g_getf (q0 := 9) (t := 0) (fi := 61) rfl rfl ff_X12_752 dX12_stepsByPath_6 rfl (sh_711 hOK) ?_
  obtain ⟨r9, e9, h⟩ := gI_bd h
  refine g_callVq1 (as := [_, _]) (rest := []) mt_X12_pathAt mi_X12_pathAt se_X12_pathAt ml_X12_162 dX12_stepsByPath_9 (q0 := 12) rfl rfl (sh_711 hOK) rfl rfl (ok_pathAt hOK e9) rfl ⟨by decide, by decide⟩ (Nat.le_of_ble_eq_true rfl) ⟨Nat.zero_le _, Nat.zero_le _⟩ ?_
  refine g_istore_n (q0 := 13) (j := 1) (lv2 := [_, _, _, _]) rfl dX12_stepsByPath_12 (by decide) rfl rfl ?_
  refine g_iconst (q0 := 14) rfl dX12_stepsByPath_13 (k := ?_)
  refine g_istore_n (q0 := 15) (j := 2) (lv2 := [_, _, _, _]) rfl dX12_stepsByPath_14 (by decide) rfl rfl ?_
  exact ok_stepsByPath_15 hOK h
-- ==== stepsByName
theorem dX12_stepsByName_0 : decode cX12_stepsByName 0 = .ok (.iconst 0, 1) := by decide +kernel
theorem dX12_stepsByName_1 : decode cX12_stepsByName 1 = .ok (.istore_n 1, 1) := by decide +kernel
theorem dX12_stepsByName_2 : decode cX12_stepsByName 2 = .ok (.iload_n 1, 1) := by decide +kernel
theorem dX12_stepsByName_3 : decode cX12_stepsByName 3 = .ok (.aload_n 0, 1) := by decide +kernel
theorem dX12_stepsByName_4 : decode cX12_stepsByName 4 = .ok (.getfield 7, 3) := by decide +kernel
theorem dX12_stepsByName_7 : decode cX12_stepsByName 7 = .ok (.aload_n 0, 1) := by decide +kernel
theorem dX12_stepsByName_8 : decode cX12_stepsByName 8 = .ok (.getfield 749, 3) := by decide +kernel
theorem dX12_stepsByName_11 : decode cX12_stepsByName 11 = .ok (.iaload, 1) := by decide +kernel
theorem dX12_stepsByName_12 : decode cX12_stepsByName 12 = .ok (.if_icmp .ge 71, 3) := by decide +kernel
theorem dX12_stepsByName_15 : decode cX12_stepsByName 15 = .ok (.aload_n 0, 1) := by decide +kernel
theorem dX12_stepsByName_16 : decode cX12_stepsByName 16 = .ok (.aload_n 0, 1) := by decide +kernel
theorem dX12_stepsByName_17 : decode cX12_stepsByName 17 = .ok (.getfield 749, 3) := by decide +kernel
theorem dX12_stepsByName_20 : decode cX12_stepsByName 20 = .ok (.iload_n 1, 1) := by decide +kernel
theorem dX12_stepsByName_21 : decode cX12_stepsByName 21 = .ok (.invokevirtual 192, 3) := by decide +kernel
theorem dX12_stepsByName_24 : decode cX12_stepsByName 24 = .ok (.istore_n 2, 1) := by decide +kernel
theorem dX12_stepsByName_25 : decode cX12_stepsByName 25 = .ok (.aload_n 0, 1) := by decide +kernel
theorem dX12_stepsByName_26 : decode cX12_stepsByName 26 = .ok (.iload_n 2, 1) := by decide +kernel
theorem dX12_stepsByName_27 : decode cX12_stepsByName 27 = .ok (.aload_n 0, 1) := by decide +kernel
theorem dX12_stepsByName_28 : decode cX12_stepsByName 28 = .ok (.getfield 749, 3) := by decide +kernel
theorem dX12_stepsByName_31 : decode cX12_stepsByName 31 = .ok (.invokevirtual 736, 3) := by decide +kernel
theorem dX12_stepsByName_34 : decode cX12_stepsByName 34 = .ok (.iconst 0, 1) := by decide +kernel
theorem dX12_stepsByName_35 : decode cX12_stepsByName 35 = .ok (.istore_n 3, 1) := by decide +kernel
theorem dX12_stepsByName_36 : decode cX12_stepsByName 36 = .ok (.iload_n 3, 1) := by decide +kernel
theorem dX12_stepsByName_37 : decode cX12_stepsByName 37 = .ok (.aload_n 0, 1) := by decide +kernel
theorem dX12_stepsByName_38 : decode cX12_stepsByName 38 = .ok (.getfield 721, 3) := by decide +kernel
theorem dX12_stepsByName_41 : decode cX12_stepsByName 41 = .ok (.if_icmp .ge 36, 3) := by decide +kernel
theorem dX12_stepsByName_44 : decode cX12_stepsByName 44 = .ok (.aload_n 0, 1) := by decide +kernel
theorem dX12_stepsByName_45 : decode cX12_stepsByName 45 = .ok (.getfield 132, 3) := by decide +kernel
theorem dX12_stepsByName_48 : decode cX12_stepsByName 48 = .ok (.iload_n 3, 1) := by decide +kernel
theorem dX12_stepsByName_49 : decode cX12_stepsByName 49 = .ok (.iaload, 1) := by decide +kernel
theorem dX12_stepsByName_50 : decode cX12_stepsByName 50 = .ok (.aload_n 0, 1) := by decide +kernel
theorem dX12_stepsByName_51 : decode cX12_stepsByName 51 = .ok (.getfield 752, 3) := by decide +kernel
theorem dX12_stepsByName_54 : decode cX12_stepsByName 54 = .ok (.if_icmp .ne 17, 3) := by decide +kernel
theorem dX12_stepsByName_57 : decode cX12_stepsByName 57 = .ok (.aload_n 0, 1) := by decide +kernel
theorem dX12_stepsByName_58 : decode cX12_stepsByName 58 = .ok (.iload_n 2, 1) := by decide +kernel
theorem dX12_stepsByName_59 : decode cX12_stepsByName 59 = .ok (.aload_n 0, 1) := by decide +kernel
theorem dX12_stepsByName_60 : decode cX12_stepsByName 60 = .ok (.getfield 129, 3) := by decide +kernel
theorem dX12_stepsByName_63 : decode cX12_stepsByName 63 = .ok (.iload_n 3, 1) := by decide +kernel
theorem dX12_stepsByName_64 : decode cX12_stepsByName 64 = .ok (.iaload, 1) := by decide +kernel
theorem dX12_stepsByName_65 : decode cX12_stepsByName 65 = .ok (.iconst 1, 1) := by decide +kernel
theorem dX12_stepsByName_66 : decode cX12_stepsByName 66 = .ok (.invokevirtual 765, 3) := by decide +kernel
theorem dX12_stepsByName_69 : decode cX12_stepsByName 69 = .ok (.iconst 1, 1) := by decide +kernel
theorem dX12_stepsByName_70 : decode cX12_stepsByName 70 = .ok (.ireturn, 1) := by decide +kernel
theorem dX12_stepsByName_71 : decode cX12_stepsByName 71 = .ok (.iinc 3 1, 3) := by decide +kernel
theorem dX12_stepsByName_74 : decode cX12_stepsByName 74 = .ok (.goto (-38), 3) := by decide +kernel
theorem dX12_stepsByName_77 : decode cX12_stepsByName 77 = .ok (.iinc 1 1, 3) := by decide +kernel
theorem dX12_stepsByName_80 : decode cX12_stepsByName 80 = .ok (.goto (-78), 3) := by decide +kernel
theorem dX12_stepsByName_83 : decode cX12_stepsByName 83 = .ok (.iconst 0, 1) := by decide +kernel
theorem dX12_stepsByName_84 : decode cX12_stepsByName 84 = .ok (.ireturn, 1) := by decide +kernel
noncomputable def st_stepsByName : Nat × List Int × gM → Option ((Nat × List Int × gM) ⊕ (Int × gM))
  | (0, [x1], M) => (if 0 ≤ (M 711 60) ∧ (M 711 60) < 120 then
      (if x1 < (M 712 (M 711 60)) then
        (Option.bind (F_parentAt M (M 711 60) x1) (fun r21 =>
          (Option.bind (F_laysPairs M r21 (M 711 60)) (fun m31 =>
            some (.inl (1, [x1, r21, 0], m31))))))
      else
        some (.inr (0, M)))
    else none)
  | (1, [x1, x2, x3], M) => (if x3 < (M 711 59) then
      (if 0 ≤ x3 ∧ x3 < 16 then
        (if (M 752 x3) = (M 711 61) then
          (Option.bind (F_steps M x2 (M 751 x3) 1) (fun m66 =>
            some (.inr (1, m66))))
        else
          some (.inl (1, [x1, x2, (gw32 (x3 + 1))], M)))
      else none)
    else
      some (.inl (0, [(gw32 (x1 + 1))], M)))
  | _ => none
theorem sk_stepsByName_2 (k : Nat × List Int × gM → Option (Int × gM)) (M : gM) (x1 : Int) : gWk k (st_stepsByName (0, [x1], M)) = (if 0 ≤ (M 711 60) ∧ (M 711 60) < 120 then
    (if x1 < (M 712 (M 711 60)) then
      (Option.bind (F_parentAt M (M 711 60) x1) (fun r21 =>
        (Option.bind (F_laysPairs M r21 (M 711 60)) (fun m31 =>
          k (1, [x1, r21, 0], m31)))))
    else
      some (0, M))
  else none) := by
  simp only [st_stepsByName, gWk_ite, gWk_bind, gWk_inl, gWk_inr, gWk_none]
theorem sk_stepsByName_36 (k : Nat × List Int × gM → Option (Int × gM)) (M : gM) (x1 x2 x3 : Int) : gWk k (st_stepsByName (1, [x1, x2, x3], M)) = (if x3 < (M 711 59) then
    (if 0 ≤ x3 ∧ x3 < 16 then
      (if (M 752 x3) = (M 711 61) then
        (Option.bind (F_steps M x2 (M 751 x3) 1) (fun m66 =>
          some (1, m66)))
      else
        k (1, [x1, x2, (gw32 (x3 + 1))], M))
    else none)
  else
    k (0, [(gw32 (x1 + 1))], M)) := by
  simp only [st_stepsByName, gWk_ite, gWk_bind, gWk_inl, gWk_inr, gWk_none]
noncomputable def F_stepsByName_2 (M : gM) (x1 : Int) : Option (Int × gM) := gWh (st_stepsByName) (0, [x1], M)
noncomputable def F_stepsByName_36 (M : gM) (x1 x2 x3 : Int) : Option (Int × gM) := gWh (st_stepsByName) (1, [x1, x2, x3], M)
theorem eq_stepsByName_2 (M : gM) (x1 : Int) : F_stepsByName_2 M x1 = (if 0 ≤ (M 711 60) ∧ (M 711 60) < 120 then
    (if x1 < (M 712 (M 711 60)) then
      (Option.bind (F_parentAt M (M 711 60) x1) (fun r21 =>
        (Option.bind (F_laysPairs M r21 (M 711 60)) (fun m31 =>
          F_stepsByName_36 m31 x1 r21 0))))
    else
      some (0, M))
  else none) := (gWh_eq _).trans (sk_stepsByName_2 _ M x1)
theorem eq_stepsByName_36 (M : gM) (x1 x2 x3 : Int) : F_stepsByName_36 M x1 x2 x3 = (if x3 < (M 711 59) then
    (if 0 ≤ x3 ∧ x3 < 16 then
      (if (M 752 x3) = (M 711 61) then
        (Option.bind (F_steps M x2 (M 751 x3) 1) (fun m66 =>
          some (1, m66)))
      else
        F_stepsByName_36 M x1 x2 (gw32 (x3 + 1)))
    else none)
  else
    F_stepsByName_2 M (gw32 (x1 + 1))) := (gWh_eq _).trans (sk_stepsByName_36 _ M x1 x2 x3)
noncomputable def F_stepsByName (M : gM) : Option (Int × gM) := F_stepsByName_2 M 0
theorem eq_stepsByName (M : gM) : F_stepsByName M = F_stepsByName_2 M 0 := rfl
theorem frp_stepsByName : ∀ (s : Nat × List Int × gM) (b : Int × gM), gWh (st_stepsByName) s = some b → (∀ (x1 : Int) (M : gM), s = (0, [x1], M) → gFr [750, 751, 752] [59, 60, 61, 62, 63, 64] M b.2) ∧ (∀ (x1 x2 x3 : Int) (M : gM), s = (1, [x1, x2, x3], M) → gFr [750, 751, 752] [59, 60, 61, 62, 63, 64] M b.2) := by
  refine gWh_ind (fun k hk s b h => ⟨?_, ?_⟩)
  · rintro x1 M rfl
    rw [sk_stepsByName_2] at h
    obtain ⟨g1, h⟩ := gI_gd h
    rcases gI_or h with h | h
    · obtain ⟨r21, e21, h⟩ := gI_bd h
      obtain ⟨m31, e31, h⟩ := gI_bd h
      exact gFr_t (gFr_t (gFr_r [750, 751, 752] [59, 60, 61, 62, 63, 64] _) (fr_laysPairs (b := m31) e31) (by first | decide | simp) (by decide)) ((hk _ _ h).2 _ _ _ _ rfl) (fun _ z => z) (fun _ z => z)
    · rw [← Option.some.inj h]
      exact (gFr_r [750, 751, 752] [59, 60, 61, 62, 63, 64] _)
  · rintro x1 x2 x3 M rfl
    rw [sk_stepsByName_36] at h
    rcases gI_or h with h | h
    · obtain ⟨g3, h⟩ := gI_gd h
      rcases gI_or h with h | h
      · obtain ⟨m66, e66, h⟩ := gI_bd h
        rw [← Option.some.inj h]
        exact (gFr_t (gFr_r [750, 751, 752] [59, 60, 61, 62, 63, 64] _) (fr_steps (b := m66) e66) (by first | decide | simp) (by decide))
      · exact gFr_t (gFr_r [750, 751, 752] [59, 60, 61, 62, 63, 64] _) ((hk _ _ h).2 _ _ _ _ rfl) (fun _ z => z) (fun _ z => z)
    · exact gFr_t (gFr_r [750, 751, 752] [59, 60, 61, 62, 63, 64] _) ((hk _ _ h).1 _ _ rfl) (fun _ z => z) (fun _ z => z)
theorem fr_stepsByName_2 {M : gM} {x1 : Int} {b : Int × gM} (h : F_stepsByName_2 M x1 = some b) : gFr [750, 751, 752] [59, 60, 61, 62, 63, 64] M b.2 :=
  (frp_stepsByName _ _ h).1 _ _ rfl
theorem fr_stepsByName_36 {M : gM} {x1 x2 x3 : Int} {b : Int × gM} (h : F_stepsByName_36 M x1 x2 x3 = some b) : gFr [750, 751, 752] [59, 60, 61, 62, 63, 64] M b.2 :=
  (frp_stepsByName _ _ h).2 _ _ _ _ rfl
theorem fr_stepsByName {M : gM} {b : Int × gM} (h : F_stepsByName M = some b) : gFr [750, 751, 752] [59, 60, 61, 62, 63, 64] M b.2 := by
  rw [eq_stepsByName] at h
  exact gFr_t (gFr_r [750, 751, 752] [59, 60, 61, 62, 63, 64] _) (fr_stepsByName_2 h) (fun _ z => z) (fun _ z => z)
theorem bop_stepsByName : ∀ (s : Nat × List Int × gM) (b : Int × gM), gWh (st_stepsByName) s = some b → (∀ (x1 : Int) (M : gM), s = (0, [x1], M) → b.1 = 0 ∨ b.1 = 1) ∧ (∀ (x1 x2 x3 : Int) (M : gM), s = (1, [x1, x2, x3], M) → b.1 = 0 ∨ b.1 = 1) := by
  refine gWh_ind (fun k hk s b h => ⟨?_, ?_⟩)
  · rintro x1 M rfl
    rw [sk_stepsByName_2] at h
    obtain ⟨g1, h⟩ := gI_gd h
    rcases gI_or h with h | h
    · obtain ⟨r21, e21, h⟩ := gI_bd h
      obtain ⟨m31, e31, h⟩ := gI_bd h
      exact (hk _ _ h).2 _ _ _ _ rfl
    · rw [← Option.some.inj h]
      exact (Or.inl rfl)
  · rintro x1 x2 x3 M rfl
    rw [sk_stepsByName_36] at h
    rcases gI_or h with h | h
    · obtain ⟨g3, h⟩ := gI_gd h
      rcases gI_or h with h | h
      · obtain ⟨m66, e66, h⟩ := gI_bd h
        rw [← Option.some.inj h]
        exact (Or.inr rfl)
      · exact (hk _ _ h).2 _ _ _ _ rfl
    · exact (hk _ _ h).1 _ _ rfl
theorem bo_stepsByName_2 {M : gM} {x1 : Int} {b : Int × gM} (h : F_stepsByName_2 M x1 = some b) : b.1 = 0 ∨ b.1 = 1 :=
  (bop_stepsByName _ _ h).1 _ _ rfl
theorem bo_stepsByName_36 {M : gM} {x1 x2 x3 : Int} {b : Int × gM} (h : F_stepsByName_36 M x1 x2 x3 = some b) : b.1 = 0 ∨ b.1 = 1 :=
  (bop_stepsByName _ _ h).2 _ _ _ _ rfl
theorem bo_stepsByName {M : gM} {b : Int × gM} (h : F_stepsByName M = some b) : b.1 = 0 ∨ b.1 = 1 := by
  rw [eq_stepsByName] at h
  exact bo_stepsByName_2 h
theorem okp_stepsByName {sh : gS} : ∀ (s : Nat × List Int × gM) (b : Int × gM), gWh (st_stepsByName) s = some b → (∀ (x1 : Int) (M : gM), s = (0, [x1], M) → gOK sh M → gA (gr 6 146) yX12_stepsByName cX12_stepsByName 4 (some (.boolean)) (gPq sh (some (0, b.1)) b.2) (0, 0) 2 [(4, 711), (0, x1), (9, 0), (9, 0)] [] sh M) ∧ (∀ (x1 x2 x3 : Int) (M : gM), s = (1, [x1, x2, x3], M) → gOK sh M → gA (gr 6 146) yX12_stepsByName cX12_stepsByName 4 (some (.boolean)) (gPq sh (some (0, b.1)) b.2) (0, 0) 36 [(4, 711), (0, x1), (0, x2), (0, x3)] [] sh M) := by
  refine gWh_ind (fun k hk s b h => ⟨?_, ?_⟩)
  · rintro x1 M rfl hOK
    rw [sk_stepsByName_2] at h
    refine g_iload_n (q0 := 3) (j := 1) rfl dX12_stepsByName_2 rfl ?_
    refine g_aload_n (q0 := 4) (j := 0) rfl dX12_stepsByName_3 rfl ?_
    refine g_getp (q0 := 7) (b := 712) rfl ff_X12_7 dX12_stepsByName_4 rfl hOK (by decide) (sh_711 hOK) rfl (by decide) ?_
    refine g_aload_n (q0 := 8) (j := 0) rfl dX12_stepsByName_7 rfl ?_
    refine g_getf (q0 := 11) (t := 0) (fi := 60) rfl rfl ff_X12_749 dX12_stepsByName_8 rfl (sh_711 hOK) ?_
    obtain ⟨g1, h⟩ := gI_gd h
    refine g_iald (q0 := 12) rfl dX12_stepsByName_11 (sh_712 hOK) g1.1 g1.2 ?_
    refine g_icmp_ge (q0 := 15) (tgt := 83) rfl dX12_stepsByName_12 (by decide) (fun h12 => ?_) (fun h12 => ?_)
    · replace h := gI_neg (Int.not_lt.mpr h12) h
      refine g_iconst (q0 := 84) rfl dX12_stepsByName_83 (k := ?_)
      rw [← Option.some.inj h]
      refine g_zreturn dX12_stepsByName_84 rfl (gnz (Or.inl rfl)) ⟨Nat.zero_le _, Nat.zero_le _⟩ ?_
      exact ⟨rfl, rfl, rfl⟩
    · replace h := gI_pos h12 h
      refine g_aload_n (q0 := 16) (j := 0) rfl dX12_stepsByName_15 rfl ?_
      refine g_aload_n (q0 := 17) (j := 0) rfl dX12_stepsByName_16 rfl ?_
      refine g_getf (q0 := 20) (t := 0) (fi := 60) rfl rfl ff_X12_749 dX12_stepsByName_17 rfl (sh_711 hOK) ?_
      refine g_iload_n (q0 := 21) (j := 1) rfl dX12_stepsByName_20 rfl ?_
      obtain ⟨r21, e21, h⟩ := gI_bd h
      refine g_callVq1 (as := [_, _]) (rest := []) mt_X12_parentAt mi_X12_parentAt se_X12_parentAt ml_X12_192 dX12_stepsByName_21 (q0 := 24) rfl rfl (sh_711 hOK) rfl rfl (ok_parentAt hOK e21) rfl ⟨by decide, by decide⟩ (Nat.le_of_ble_eq_true rfl) ⟨Nat.zero_le _, Nat.zero_le _⟩ ?_
      refine g_istore_n (q0 := 25) (j := 2) (lv2 := [_, _, _, _]) rfl dX12_stepsByName_24 (by decide) rfl rfl ?_
      refine g_aload_n (q0 := 26) (j := 0) rfl dX12_stepsByName_25 rfl ?_
      refine g_iload_n (q0 := 27) (j := 2) rfl dX12_stepsByName_26 rfl ?_
      refine g_aload_n (q0 := 28) (j := 0) rfl dX12_stepsByName_27 rfl ?_
      refine g_getf (q0 := 31) (t := 0) (fi := 60) rfl rfl ff_X12_749 dX12_stepsByName_28 rfl (sh_711 hOK) ?_
      obtain ⟨m31, e31, h⟩ := gI_bd h
      refine g_callVq0 (as := [_, _]) (rest := []) mt_X12_laysPairs mi_X12_laysPairs se_X12_laysPairs ml_X12_736 dX12_stepsByName_31 (q0 := 34) rfl rfl (sh_711 hOK) rfl rfl (ok_laysPairs hOK e31) rfl ⟨by decide, by decide⟩ (Nat.le_of_ble_eq_true rfl) ⟨Nat.zero_le _, Nat.zero_le _⟩ ?_
      have hOK2 : gOK sh m31 := gOK_fr hOK (fr_laysPairs (b := m31) e31) (by first | decide | (intro a ha; simp only [List.mem_cons, List.not_mem_nil, or_false] at ha; omega)) (by decide)
      refine g_iconst (q0 := 35) rfl dX12_stepsByName_34 (k := ?_)
      refine g_istore_n (q0 := 36) (j := 3) (lv2 := [_, _, _, _]) rfl dX12_stepsByName_35 (by decide) rfl rfl ?_
      exact (hk _ _ h).2 _ _ _ _ rfl hOK2
  · rintro x1 x2 x3 M rfl hOK
    rw [sk_stepsByName_36] at h
    refine g_iload_n (q0 := 37) (j := 3) rfl dX12_stepsByName_36 rfl ?_
    refine g_aload_n (q0 := 38) (j := 0) rfl dX12_stepsByName_37 rfl ?_
    refine g_getf (q0 := 41) (t := 0) (fi := 59) rfl rfl ff_X12_721 dX12_stepsByName_38 rfl (sh_711 hOK) ?_
    refine g_icmp_ge (q0 := 44) (tgt := 77) rfl dX12_stepsByName_41 (by decide) (fun h41 => ?_) (fun h41 => ?_)
    · replace h := gI_neg (Int.not_lt.mpr h41) h
      refine g_iincw (q0 := 80) (lv2 := [_, _, _, _]) rfl dX12_stepsByName_77 rfl (by decide) rfl rfl ?_
      refine g_goto (tgt := 2) dX12_stepsByName_80 (by decide) ?_
      refine gA_jk (lv1 := [_, _, (9, 0), (9, 0)]) ⟨.inl rfl, .inl rfl, .inr rfl, .inr rfl, trivial⟩ ?_
      exact (hk _ _ h).1 _ _ rfl hOK
    · replace h := gI_pos h41 h
      refine g_aload_n (q0 := 45) (j := 0) rfl dX12_stepsByName_44 rfl ?_
      refine g_getp (q0 := 48) (b := 752) rfl ff_X12_132 dX12_stepsByName_45 rfl hOK (by decide) (sh_711 hOK) rfl (by decide) ?_
      refine g_iload_n (q0 := 49) (j := 3) rfl dX12_stepsByName_48 rfl ?_
      obtain ⟨g3, h⟩ := gI_gd h
      refine g_iald (q0 := 50) rfl dX12_stepsByName_49 (sh_752 hOK) g3.1 g3.2 ?_
      refine g_aload_n (q0 := 51) (j := 0) rfl dX12_stepsByName_50 rfl ?_
      refine g_getf (q0 := 54) (t := 0) (fi := 61) rfl rfl ff_X12_752 dX12_stepsByName_51 rfl (sh_711 hOK) ?_
      refine g_icmp_ne (q0 := 57) (tgt := 71) rfl dX12_stepsByName_54 (by decide) (fun h54 => ?_) (fun h54 => ?_)
      · replace h := gI_neg h54 h
        refine g_iincw (q0 := 74) (lv2 := [_, _, _, _]) rfl dX12_stepsByName_71 rfl (by decide) rfl rfl ?_
        refine g_goto (tgt := 36) dX12_stepsByName_74 (by decide) ?_
        exact (hk _ _ h).2 _ _ _ _ rfl hOK
      · replace h := gI_pos h54 h
        refine g_aload_n (q0 := 58) (j := 0) rfl dX12_stepsByName_57 rfl ?_
        refine g_iload_n (q0 := 59) (j := 2) rfl dX12_stepsByName_58 rfl ?_
        refine g_aload_n (q0 := 60) (j := 0) rfl dX12_stepsByName_59 rfl ?_
        refine g_getp (q0 := 63) (b := 751) rfl ff_X12_129 dX12_stepsByName_60 rfl hOK (by decide) (sh_711 hOK) rfl (by decide) ?_
        refine g_iload_n (q0 := 64) (j := 3) rfl dX12_stepsByName_63 rfl ?_
        refine g_iald (q0 := 65) rfl dX12_stepsByName_64 (sh_751 hOK) g3.1 g3.2 ?_
        refine g_iconst (q0 := 66) rfl dX12_stepsByName_65 (k := ?_)
        obtain ⟨m66, e66, h⟩ := gI_bd h
        refine g_callVq0 (as := [_, _, _]) (rest := []) mt_X12_steps mi_X12_steps se_X12_steps ml_X12_765 dX12_stepsByName_66 (q0 := 69) rfl rfl (sh_711 hOK) rfl rfl (ok_steps hOK e66) rfl ⟨by decide, by decide⟩ (Nat.le_of_ble_eq_true rfl) ⟨Nat.zero_le _, Nat.zero_le _⟩ ?_
        have hOK4 : gOK sh m66 := gOK_fr hOK (fr_steps (b := m66) e66) (by first | decide | (intro a ha; simp only [List.mem_cons, List.not_mem_nil, or_false] at ha; omega)) (by decide)
        refine g_iconst (q0 := 70) rfl dX12_stepsByName_69 (k := ?_)
        rw [← Option.some.inj h]
        refine g_zreturn dX12_stepsByName_70 rfl (gnz (Or.inr rfl)) ⟨Nat.zero_le _, Nat.zero_le _⟩ ?_
        exact ⟨rfl, rfl, rfl⟩
theorem ok_stepsByName_2 {sh : gS} {M : gM} {x1 : Int} {b : Int × gM} (hOK : gOK sh M) (h : F_stepsByName_2 M x1 = some b) : gA (gr 6 146) yX12_stepsByName cX12_stepsByName 4 (some (.boolean)) (gPq sh (some (0, b.1)) b.2) (0, 0) 2 [(4, 711), (0, x1), (9, 0), (9, 0)] [] sh M :=
  (okp_stepsByName _ _ h).1 _ _ rfl hOK
theorem ok_stepsByName_36 {sh : gS} {M : gM} {x1 x2 x3 : Int} {b : Int × gM} (hOK : gOK sh M) (h : F_stepsByName_36 M x1 x2 x3 = some b) : gA (gr 6 146) yX12_stepsByName cX12_stepsByName 4 (some (.boolean)) (gPq sh (some (0, b.1)) b.2) (0, 0) 36 [(4, 711), (0, x1), (0, x2), (0, x3)] [] sh M :=
  (okp_stepsByName _ _ h).2 _ _ _ _ rfl hOK
theorem ok_stepsByName {sh : gS} {M : gM} {b : Int × gM} (hOK : gOK sh M) (h : F_stepsByName M = some b) : gC (gr 6 146) yX12_stepsByName cX12_stepsByName 4 (some (.boolean)) [(4, 711)] sh M (gPq sh (some (0, b.1)) b.2) := by
  rw [eq_stepsByName] at h
  refine gC_ofA (lv := [_, _, _, _]) (by decide +kernel) (Nat.le_of_ble_eq_true rfl) rfl (fun hMw hav => ?_)
  refine g_iconst (q0 := 1) rfl dX12_stepsByName_0 (k := ?_)
  refine g_istore_n (q0 := 2) (j := 1) (lv2 := [_, _, _, _]) rfl dX12_stepsByName_1 (by decide) rfl rfl ?_
  exact ok_stepsByName_2 hOK h
-- ==== origin
theorem dX12_origin_0 : decode cX12_origin 0 = .ok (.aload_n 0, 1) := by decide +kernel
theorem dX12_origin_1 : decode cX12_origin 1 = .ok (.iload_n 1, 1) := by decide +kernel
theorem dX12_origin_2 : decode cX12_origin 2 = .ok (.invokevirtual 229, 3) := by decide +kernel
theorem dX12_origin_5 : decode cX12_origin 5 = .ok (.ifCond .eq 22, 3) := by decide +kernel
theorem dX12_origin_8 : decode cX12_origin 8 = .ok (.iload_n 2, 1) := by decide +kernel
theorem dX12_origin_9 : decode cX12_origin 9 = .ok (.iconst 0, 1) := by decide +kernel
theorem dX12_origin_10 : decode cX12_origin 10 = .ok (.bipush 15, 2) := by decide +kernel
theorem dX12_origin_12 : decode cX12_origin 12 = .ok (.invokestatic 182, 3) := by decide +kernel
theorem dX12_origin_15 : decode cX12_origin 15 = .ok (.ifCond .eq 12, 3) := by decide +kernel
theorem dX12_origin_18 : decode cX12_origin 18 = .ok (.iload_n 3, 1) := by decide +kernel
theorem dX12_origin_19 : decode cX12_origin 19 = .ok (.iconst 0, 1) := by decide +kernel
theorem dX12_origin_20 : decode cX12_origin 20 = .ok (.iconst 4, 1) := by decide +kernel
theorem dX12_origin_21 : decode cX12_origin 21 = .ok (.invokestatic 182, 3) := by decide +kernel
theorem dX12_origin_24 : decode cX12_origin 24 = .ok (.ifCond .ne 5, 3) := by decide +kernel
theorem dX12_origin_27 : decode cX12_origin 27 = .ok (.iconst (-1), 1) := by decide +kernel
theorem dX12_origin_28 : decode cX12_origin 28 = .ok (.ireturn, 1) := by decide +kernel
theorem dX12_origin_29 : decode cX12_origin 29 = .ok (.iload_n 2, 1) := by decide +kernel
theorem dX12_origin_30 : decode cX12_origin 30 = .ok (.aload_n 0, 1) := by decide +kernel
theorem dX12_origin_31 : decode cX12_origin 31 = .ok (.getfield 28, 3) := by decide +kernel
theorem dX12_origin_34 : decode cX12_origin 34 = .ok (.iload_n 1, 1) := by decide +kernel
theorem dX12_origin_35 : decode cX12_origin 35 = .ok (.iaload, 1) := by decide +kernel
theorem dX12_origin_36 : decode cX12_origin 36 = .ok (.if_icmp .lt 6, 3) := by decide +kernel
theorem dX12_origin_39 : decode cX12_origin 39 = .ok (.bipush (-4), 2) := by decide +kernel
theorem dX12_origin_41 : decode cX12_origin 41 = .ok (.ireturn, 1) := by decide +kernel
theorem dX12_origin_42 : decode cX12_origin 42 = .ok (.aload_n 0, 1) := by decide +kernel
theorem dX12_origin_43 : decode cX12_origin 43 = .ok (.iload_n 1, 1) := by decide +kernel
theorem dX12_origin_44 : decode cX12_origin 44 = .ok (.putfield 749, 3) := by decide +kernel
theorem dX12_origin_47 : decode cX12_origin 47 = .ok (.aload_n 0, 1) := by decide +kernel
theorem dX12_origin_48 : decode cX12_origin 48 = .ok (.iload_n 2, 1) := by decide +kernel
theorem dX12_origin_49 : decode cX12_origin 49 = .ok (.putfield 752, 3) := by decide +kernel
theorem dX12_origin_52 : decode cX12_origin 52 = .ok (.aload_n 0, 1) := by decide +kernel
theorem dX12_origin_53 : decode cX12_origin 53 = .ok (.iconst 0, 1) := by decide +kernel
theorem dX12_origin_54 : decode cX12_origin 54 = .ok (.putfield 755, 3) := by decide +kernel
theorem dX12_origin_57 : decode cX12_origin 57 = .ok (.aload_n 0, 1) := by decide +kernel
theorem dX12_origin_58 : decode cX12_origin 58 = .ok (.iconst 0, 1) := by decide +kernel
theorem dX12_origin_59 : decode cX12_origin 59 = .ok (.putfield 758, 3) := by decide +kernel
theorem dX12_origin_62 : decode cX12_origin 62 = .ok (.aload_n 0, 1) := by decide +kernel
theorem dX12_origin_63 : decode cX12_origin 63 = .ok (.fconst 1, 1) := by decide +kernel
theorem dX12_origin_64 : decode cX12_origin 64 = .ok (.putfield 761, 3) := by decide +kernel
theorem dX12_origin_67 : decode cX12_origin 67 = .ok (.iconst 1, 1) := by decide +kernel
theorem dX12_origin_68 : decode cX12_origin 68 = .ok (.istore 4, 2) := by decide +kernel
theorem dX12_origin_70 : decode cX12_origin 70 = .ok (.iload 4, 2) := by decide +kernel
theorem dX12_origin_72 : decode cX12_origin 72 = .ok (.ifCond .eq 27, 3) := by decide +kernel
theorem dX12_origin_75 : decode cX12_origin 75 = .ok (.aload_n 0, 1) := by decide +kernel
theorem dX12_origin_76 : decode cX12_origin 76 = .ok (.invokevirtual 768, 3) := by decide +kernel
theorem dX12_origin_79 : decode cX12_origin 79 = .ok (.ifCond .ne 10, 3) := by decide +kernel
theorem dX12_origin_82 : decode cX12_origin 82 = .ok (.aload_n 0, 1) := by decide +kernel
theorem dX12_origin_83 : decode cX12_origin 83 = .ok (.invokevirtual 771, 3) := by decide +kernel
theorem dX12_origin_86 : decode cX12_origin 86 = .ok (.ifCond .eq 7, 3) := by decide +kernel
theorem dX12_origin_89 : decode cX12_origin 89 = .ok (.iconst 1, 1) := by decide +kernel
theorem dX12_origin_90 : decode cX12_origin 90 = .ok (.goto 4, 3) := by decide +kernel
theorem dX12_origin_93 : decode cX12_origin 93 = .ok (.iconst 0, 1) := by decide +kernel
theorem dX12_origin_94 : decode cX12_origin 94 = .ok (.istore 4, 2) := by decide +kernel
theorem dX12_origin_96 : decode cX12_origin 96 = .ok (.goto (-26), 3) := by decide +kernel
theorem dX12_origin_99 : decode cX12_origin 99 = .ok (.iload_n 3, 1) := by decide +kernel
theorem dX12_origin_100 : decode cX12_origin 100 = .ok (.tableswitch 52 0 3 #[32, 37, 42, 47], 32) := by decide +kernel
theorem dX12_origin_132 : decode cX12_origin 132 = .ok (.aload_n 0, 1) := by decide +kernel
theorem dX12_origin_133 : decode cX12_origin 133 = .ok (.getfield 749, 3) := by decide +kernel
theorem dX12_origin_136 : decode cX12_origin 136 = .ok (.ireturn, 1) := by decide +kernel
theorem dX12_origin_137 : decode cX12_origin 137 = .ok (.aload_n 0, 1) := by decide +kernel
theorem dX12_origin_138 : decode cX12_origin 138 = .ok (.getfield 752, 3) := by decide +kernel
theorem dX12_origin_141 : decode cX12_origin 141 = .ok (.ireturn, 1) := by decide +kernel
theorem dX12_origin_142 : decode cX12_origin 142 = .ok (.aload_n 0, 1) := by decide +kernel
theorem dX12_origin_143 : decode cX12_origin 143 = .ok (.getfield 755, 3) := by decide +kernel
theorem dX12_origin_146 : decode cX12_origin 146 = .ok (.ireturn, 1) := by decide +kernel
theorem dX12_origin_147 : decode cX12_origin 147 = .ok (.aload_n 0, 1) := by decide +kernel
theorem dX12_origin_148 : decode cX12_origin 148 = .ok (.getfield 758, 3) := by decide +kernel
theorem dX12_origin_151 : decode cX12_origin 151 = .ok (.ireturn, 1) := by decide +kernel
theorem dX12_origin_152 : decode cX12_origin 152 = .ok (.aload_n 0, 1) := by decide +kernel
theorem dX12_origin_153 : decode cX12_origin 153 = .ok (.getfield 761, 3) := by decide +kernel
theorem dX12_origin_156 : decode cX12_origin 156 = .ok (.invokestatic 740, 3) := by decide +kernel
theorem dX12_origin_159 : decode cX12_origin 159 = .ok (.ireturn, 1) := by decide +kernel
noncomputable def st_origin : Nat × List Int × gM → Option ((Nat × List Int × gM) ⊕ (Int × gM))
  | (0, [x1, x2, x3, x4], M) => (if x4 = 0 then
      (if x3 = 0 then
        some (.inr ((M 711 60), M))
      else
        (if x3 = 1 then
          some (.inr ((M 711 61), M))
        else
          (if x3 = 2 then
            some (.inr ((M 711 62), M))
          else
            (if x3 = 3 then
              some (.inr ((M 711 63), M))
            else
              (Option.bind (F_fbits (M 711 64)) (fun r156 =>
                some (.inr (r156, M))))))))
    else
      (Option.bind (F_stepsByPath M) (fun p76 =>
        (if p76.1 = 0 then
          (Option.bind (F_stepsByName p76.2) (fun p83 =>
            (if p83.1 = 0 then
              some (.inl (0, [x1, x2, x3, 0], p83.2))
            else
              some (.inl (0, [x1, x2, x3, 1], p83.2)))))
        else
          some (.inl (0, [x1, x2, x3, 1], p76.2))))))
  | _ => none
theorem sk_origin_70 (k : Nat × List Int × gM → Option (Int × gM)) (M : gM) (x1 x2 x3 x4 : Int) : gWk k (st_origin (0, [x1, x2, x3, x4], M)) = (if x4 = 0 then
    (if x3 = 0 then
      some ((M 711 60), M)
    else
      (if x3 = 1 then
        some ((M 711 61), M)
      else
        (if x3 = 2 then
          some ((M 711 62), M)
        else
          (if x3 = 3 then
            some ((M 711 63), M)
          else
            (Option.bind (F_fbits (M 711 64)) (fun r156 =>
              some (r156, M)))))))
  else
    (Option.bind (F_stepsByPath M) (fun p76 =>
      (if p76.1 = 0 then
        (Option.bind (F_stepsByName p76.2) (fun p83 =>
          (if p83.1 = 0 then
            k (0, [x1, x2, x3, 0], p83.2)
          else
            k (0, [x1, x2, x3, 1], p83.2))))
      else
        k (0, [x1, x2, x3, 1], p76.2))))) := by
  simp only [st_origin, gWk_ite, gWk_bind, gWk_inl, gWk_inr, gWk_none]
noncomputable def F_origin_70 (M : gM) (x1 x2 x3 x4 : Int) : Option (Int × gM) := gWh (st_origin) (0, [x1, x2, x3, x4], M)
theorem eq_origin_70 (M : gM) (x1 x2 x3 x4 : Int) : F_origin_70 M x1 x2 x3 x4 = (if x4 = 0 then
    (if x3 = 0 then
      some ((M 711 60), M)
    else
      (if x3 = 1 then
        some ((M 711 61), M)
      else
        (if x3 = 2 then
          some ((M 711 62), M)
        else
          (if x3 = 3 then
            some ((M 711 63), M)
          else
            (Option.bind (F_fbits (M 711 64)) (fun r156 =>
              some (r156, M)))))))
  else
    (Option.bind (F_stepsByPath M) (fun p76 =>
      (if p76.1 = 0 then
        (Option.bind (F_stepsByName p76.2) (fun p83 =>
          (if p83.1 = 0 then
            F_origin_70 p83.2 x1 x2 x3 0
          else
            F_origin_70 p83.2 x1 x2 x3 1)))
      else
        F_origin_70 p76.2 x1 x2 x3 1)))) := (gWh_eq _).trans (sk_origin_70 _ M x1 x2 x3 x4)
noncomputable def F_origin (M : gM) (a1 a2 a3 : Int) : Option (Int × gM) := (Option.bind (F_isCommit M a1) (fun r2 =>
    (if r2 = 0 then
      some (-1, M)
    else
      (Option.bind (F_in a2 0 15) (fun r12 =>
        (if r12 = 0 then
          some (-1, M)
        else
          (Option.bind (F_in a3 0 4) (fun r21 =>
            (if r21 = 0 then
              some (-1, M)
            else
              (if 0 ≤ a1 ∧ a1 < 123 then
                (if a2 < (M 718 a1) then
                  F_origin_70 (gU (gU (gU (gU (gU M 711 60 a1) 711 61 a2) 711 62 0) 711 63 0) 711 64 (gfl FP.fconst1)) a1 a2 a3 1
                else
                  some (-4, M))
              else none))))))))))
theorem eq_origin (M : gM) (a1 a2 a3 : Int) : F_origin M a1 a2 a3 = (Option.bind (F_isCommit M a1) (fun r2 =>
    (if r2 = 0 then
      some (-1, M)
    else
      (Option.bind (F_in a2 0 15) (fun r12 =>
        (if r12 = 0 then
          some (-1, M)
        else
          (Option.bind (F_in a3 0 4) (fun r21 =>
            (if r21 = 0 then
              some (-1, M)
            else
              (if 0 ≤ a1 ∧ a1 < 123 then
                (if a2 < (M 718 a1) then
                  F_origin_70 (gU (gU (gU (gU (gU M 711 60 a1) 711 61 a2) 711 62 0) 711 63 0) 711 64 (gfl FP.fconst1)) a1 a2 a3 1
                else
                  some (-4, M))
              else none)))))))))) := rfl
theorem frp_origin : ∀ (s : Nat × List Int × gM) (b : Int × gM), gWh (st_origin) s = some b → (∀ (x1 x2 x3 x4 : Int) (M : gM), s = (0, [x1, x2, x3, x4], M) → gFr [750, 751, 752] [59, 60, 61, 62, 63, 64] M b.2) := by
  refine gWh_ind (fun k hk s b h => ?_)
  · rintro x1 x2 x3 x4 M rfl
    rw [sk_origin_70] at h
    rcases gI_or h with h | h
    · rcases gI_or h with h | h
      · rw [← Option.some.inj h]
        exact (gFr_r [750, 751, 752] [59, 60, 61, 62, 63, 64] _)
      · rcases gI_or h with h | h
        · rw [← Option.some.inj h]
          exact (gFr_r [750, 751, 752] [59, 60, 61, 62, 63, 64] _)
        · rcases gI_or h with h | h
          · rw [← Option.some.inj h]
            exact (gFr_r [750, 751, 752] [59, 60, 61, 62, 63, 64] _)
          · rcases gI_or h with h | h
            · rw [← Option.some.inj h]
              exact (gFr_r [750, 751, 752] [59, 60, 61, 62, 63, 64] _)
            · obtain ⟨r156, e156, h⟩ := gI_bd h
              rw [← Option.some.inj h]
              exact (gFr_r [750, 751, 752] [59, 60, 61, 62, 63, 64] _)
    · obtain ⟨p76, e76, h⟩ := gI_bd h
      rcases gI_or h with h | h
      · obtain ⟨p83, e83, h⟩ := gI_bd h
        rcases gI_or h with h | h
        · exact gFr_t (gFr_t (gFr_t (gFr_r [750, 751, 752] [59, 60, 61, 62, 63, 64] _) (fr_stepsByPath (b := p76) e76) (by first | decide | simp) (by decide)) (fr_stepsByName (b := p83) e83) (by first | decide | simp) (by decide)) ((hk _ _ h) _ _ _ _ _ rfl) (fun _ z => z) (fun _ z => z)
        · exact gFr_t (gFr_t (gFr_t (gFr_r [750, 751, 752] [59, 60, 61, 62, 63, 64] _) (fr_stepsByPath (b := p76) e76) (by first | decide | simp) (by decide)) (fr_stepsByName (b := p83) e83) (by first | decide | simp) (by decide)) ((hk _ _ h) _ _ _ _ _ rfl) (fun _ z => z) (fun _ z => z)
      · exact gFr_t (gFr_t (gFr_r [750, 751, 752] [59, 60, 61, 62, 63, 64] _) (fr_stepsByPath (b := p76) e76) (by first | decide | simp) (by decide)) ((hk _ _ h) _ _ _ _ _ rfl) (fun _ z => z) (fun _ z => z)
theorem fr_origin_70 {M : gM} {x1 x2 x3 x4 : Int} {b : Int × gM} (h : F_origin_70 M x1 x2 x3 x4 = some b) : gFr [750, 751, 752] [59, 60, 61, 62, 63, 64] M b.2 :=
  (frp_origin _ _ h) _ _ _ _ _ rfl
theorem fr_origin {M : gM} {a1 a2 a3 : Int} {b : Int × gM} (h : F_origin M a1 a2 a3 = some b) : gFr [750, 751, 752] [59, 60, 61, 62, 63, 64] M b.2 := by
  rw [eq_origin] at h
  obtain ⟨r2, e2, h⟩ := gI_bd h
  rcases gI_or h with h | h
  · rw [← Option.some.inj h]
    exact (gFr_r [750, 751, 752] [59, 60, 61, 62, 63, 64] _)
  · obtain ⟨r12, e12, h⟩ := gI_bd h
    rcases gI_or h with h | h
    · rw [← Option.some.inj h]
      exact (gFr_r [750, 751, 752] [59, 60, 61, 62, 63, 64] _)
    · obtain ⟨r21, e21, h⟩ := gI_bd h
      rcases gI_or h with h | h
      · rw [← Option.some.inj h]
        exact (gFr_r [750, 751, 752] [59, 60, 61, 62, 63, 64] _)
      · obtain ⟨g3, h⟩ := gI_gd h
        rcases gI_or h with h | h
        · exact gFr_t (gFr_f (gFr_f (gFr_f (gFr_f (gFr_f (gFr_r [750, 751, 752] [59, 60, 61, 62, 63, 64] _) (.tail _ (.head _))) (.tail _ (.tail _ (.head _)))) (.tail _ (.tail _ (.tail _ (.head _))))) (.tail _ (.tail _ (.tail _ (.tail _ (.head _)))))) (.tail _ (.tail _ (.tail _ (.tail _ (.tail _ (.head _))))))) (fr_origin_70 h) (fun _ z => z) (fun _ z => z)
        · rw [← Option.some.inj h]
          exact (gFr_r [750, 751, 752] [59, 60, 61, 62, 63, 64] _)
theorem okp_origin {sh : gS} : ∀ (s : Nat × List Int × gM) (b : Int × gM), gWh (st_origin) s = some b → (∀ (x1 x2 x3 x4 : Int) (M : gM), s = (0, [x1, x2, x3, x4], M) → gOK sh M → gA (gr 7 169) yX12_origin cX12_origin 5 (some (.int)) (gPq sh (some (0, b.1)) b.2) (0, 0) 70 [(4, 711), (0, x1), (0, x2), (0, x3), (0, x4)] [] sh M) := by
  refine gWh_ind (fun k hk s b h => ?_)
  · rintro x1 x2 x3 x4 M rfl hOK
    rw [sk_origin_70] at h
    refine g_iload (q0 := 72) (j := 4) rfl dX12_origin_70 rfl ?_
    refine g_if_eq (q0 := 75) (tgt := 99) rfl dX12_origin_72 (by decide) (fun h72 => ?_) (fun h72 => ?_)
    · replace h := gI_pos h72 h
      refine g_iload_n (q0 := 100) (j := 3) rfl dX12_origin_99 rfl ?_
      by_cases hs0 : x3 = 0
      · replace h := gI_pos hs0 h
        refine g_tabIn (off := 32) (tgt := 132) dX12_origin_100 (by omega) (by omega) (by rw [hs0]; rfl) (by decide) ?_
        refine g_aload_n (q0 := 133) (j := 0) rfl dX12_origin_132 rfl ?_
        refine g_getf (q0 := 136) (t := 0) (fi := 60) rfl rfl ff_X12_749 dX12_origin_133 rfl (sh_711 hOK) ?_
        rw [← Option.some.inj h]
        refine g_ireturn dX12_origin_136 rfl ⟨Nat.zero_le _, Nat.zero_le _⟩ ?_
        exact ⟨rfl, rfl, rfl⟩
      · replace h := gI_neg hs0 h
        by_cases hs1 : x3 = 1
        · replace h := gI_pos hs1 h
          refine g_tabIn (off := 37) (tgt := 137) dX12_origin_100 (by omega) (by omega) (by rw [hs1]; rfl) (by decide) ?_
          refine g_aload_n (q0 := 138) (j := 0) rfl dX12_origin_137 rfl ?_
          refine g_getf (q0 := 141) (t := 0) (fi := 61) rfl rfl ff_X12_752 dX12_origin_138 rfl (sh_711 hOK) ?_
          rw [← Option.some.inj h]
          refine g_ireturn dX12_origin_141 rfl ⟨Nat.zero_le _, Nat.zero_le _⟩ ?_
          exact ⟨rfl, rfl, rfl⟩
        · replace h := gI_neg hs1 h
          by_cases hs2 : x3 = 2
          · replace h := gI_pos hs2 h
            refine g_tabIn (off := 42) (tgt := 142) dX12_origin_100 (by omega) (by omega) (by rw [hs2]; rfl) (by decide) ?_
            refine g_aload_n (q0 := 143) (j := 0) rfl dX12_origin_142 rfl ?_
            refine g_getf (q0 := 146) (t := 0) (fi := 62) rfl rfl ff_X12_755 dX12_origin_143 rfl (sh_711 hOK) ?_
            rw [← Option.some.inj h]
            refine g_ireturn dX12_origin_146 rfl ⟨Nat.zero_le _, Nat.zero_le _⟩ ?_
            exact ⟨rfl, rfl, rfl⟩
          · replace h := gI_neg hs2 h
            by_cases hs3 : x3 = 3
            · replace h := gI_pos hs3 h
              refine g_tabIn (off := 47) (tgt := 147) dX12_origin_100 (by omega) (by omega) (by rw [hs3]; rfl) (by decide) ?_
              refine g_aload_n (q0 := 148) (j := 0) rfl dX12_origin_147 rfl ?_
              refine g_getf (q0 := 151) (t := 0) (fi := 63) rfl rfl ff_X12_758 dX12_origin_148 rfl (sh_711 hOK) ?_
              rw [← Option.some.inj h]
              refine g_ireturn dX12_origin_151 rfl ⟨Nat.zero_le _, Nat.zero_le _⟩ ?_
              exact ⟨rfl, rfl, rfl⟩
            · replace h := gI_neg hs3 h
              refine g_tabOut (tgt := 152) dX12_origin_100 (by omega) (by decide) ?_
              refine g_aload_n (q0 := 153) (j := 0) rfl dX12_origin_152 rfl ?_
              refine g_getf (q0 := 156) (t := 2) (fi := 64) rfl rfl ff_X12_761 dX12_origin_153 rfl (sh_711 hOK) ?_
              obtain ⟨r156, e156, h⟩ := gI_bd h
              refine g_callSq1 (as := [_]) (rest := []) mt_Jxf58ca_floatToIntBits_5c35a ms_Jxf58ca_floatToIntBits_5c35a ml_X12_740 dX12_origin_156 (q0 := 159) rfl rfl (ok_fbits hOK e156) rfl ⟨by decide, by decide⟩ (Nat.le_of_ble_eq_true rfl) ⟨Nat.zero_le _, Nat.zero_le _⟩ ?_
              rw [← Option.some.inj h]
              refine g_ireturn dX12_origin_159 rfl ⟨Nat.zero_le _, Nat.zero_le _⟩ ?_
              exact ⟨rfl, rfl, rfl⟩
    · replace h := gI_neg h72 h
      refine g_aload_n (q0 := 76) (j := 0) rfl dX12_origin_75 rfl ?_
      obtain ⟨p76, e76, h⟩ := gI_bd h
      refine g_callVq1 (as := []) (rest := []) mt_X12_stepsByPath mi_X12_stepsByPath se_X12_stepsByPath ml_X12_768 dX12_origin_76 (q0 := 79) rfl rfl (sh_711 hOK) rfl rfl (ok_stepsByPath hOK e76) rfl ⟨by decide, by decide⟩ (Nat.le_of_ble_eq_true rfl) ⟨Nat.zero_le _, Nat.zero_le _⟩ ?_
      have hOK1 : gOK sh p76.2 := gOK_fr hOK (fr_stepsByPath (b := p76) e76) (by first | decide | (intro a ha; simp only [List.mem_cons, List.not_mem_nil, or_false] at ha; omega)) (by decide)
      refine g_if_ne (q0 := 82) (tgt := 89) rfl dX12_origin_79 (by decide) (fun h79 => ?_) (fun h79 => ?_)
      · replace h := gI_neg h79 h
        refine g_iconst (q0 := 90) rfl dX12_origin_89 (k := ?_)
        refine g_goto (tgt := 94) dX12_origin_90 (by decide) ?_
        refine g_istore (q0 := 96) (j := 4) (lv2 := [_, _, _, _, _]) rfl dX12_origin_94 (by decide) rfl rfl ?_
        refine g_goto (tgt := 70) dX12_origin_96 (by decide) ?_
        exact (hk _ _ h) _ _ _ _ _ rfl hOK1
      · replace h := gI_pos h79 h
        refine g_aload_n (q0 := 83) (j := 0) rfl dX12_origin_82 rfl ?_
        obtain ⟨p83, e83, h⟩ := gI_bd h
        refine g_callVq1 (as := []) (rest := []) mt_X12_stepsByName mi_X12_stepsByName se_X12_stepsByName ml_X12_771 dX12_origin_83 (q0 := 86) rfl rfl (sh_711 hOK1) rfl rfl (ok_stepsByName hOK1 e83) rfl ⟨by decide, by decide⟩ (Nat.le_of_ble_eq_true rfl) ⟨Nat.zero_le _, Nat.zero_le _⟩ ?_
        have hOK2 : gOK sh p83.2 := gOK_fr hOK1 (fr_stepsByName (b := p83) e83) (by first | decide | (intro a ha; simp only [List.mem_cons, List.not_mem_nil, or_false] at ha; omega)) (by decide)
        refine g_if_eq (q0 := 89) (tgt := 93) rfl dX12_origin_86 (by decide) (fun h86 => ?_) (fun h86 => ?_)
        · replace h := gI_pos h86 h
          refine g_iconst (q0 := 94) rfl dX12_origin_93 (k := ?_)
          refine g_istore (q0 := 96) (j := 4) (lv2 := [_, _, _, _, _]) rfl dX12_origin_94 (by decide) rfl rfl ?_
          refine g_goto (tgt := 70) dX12_origin_96 (by decide) ?_
          exact (hk _ _ h) _ _ _ _ _ rfl hOK2
        · replace h := gI_neg h86 h
          refine g_iconst (q0 := 90) rfl dX12_origin_89 (k := ?_)
          refine g_goto (tgt := 94) dX12_origin_90 (by decide) ?_
          refine g_istore (q0 := 96) (j := 4) (lv2 := [_, _, _, _, _]) rfl dX12_origin_94 (by decide) rfl rfl ?_
          refine g_goto (tgt := 70) dX12_origin_96 (by decide) ?_
          exact (hk _ _ h) _ _ _ _ _ rfl hOK2
theorem ok_origin_70 {sh : gS} {M : gM} {x1 x2 x3 x4 : Int} {b : Int × gM} (hOK : gOK sh M) (h : F_origin_70 M x1 x2 x3 x4 = some b) : gA (gr 7 169) yX12_origin cX12_origin 5 (some (.int)) (gPq sh (some (0, b.1)) b.2) (0, 0) 70 [(4, 711), (0, x1), (0, x2), (0, x3), (0, x4)] [] sh M :=
  (okp_origin _ _ h) _ _ _ _ _ rfl hOK
theorem ok_origin {sh : gS} {M : gM} {a1 a2 a3 : Int} {b : Int × gM} (hOK : gOK sh M) (h : F_origin M a1 a2 a3 = some b) : gC (gr 7 169) yX12_origin cX12_origin 5 (some (.int)) [(4, 711), (0, a1), (0, a2), (0, a3)] sh M (gPq sh (some (0, b.1)) b.2) := by
  rw [eq_origin] at h
  refine gC_ofA (lv := [_, _, _, _, _]) (by decide +kernel) (Nat.le_of_ble_eq_true rfl) rfl (fun hMw hav => ?_)
  refine g_aload_n (q0 := 1) (j := 0) rfl dX12_origin_0 rfl ?_
  refine g_iload_n (q0 := 2) (j := 1) rfl dX12_origin_1 rfl ?_
  obtain ⟨r2, e2, h⟩ := gI_bd h
  refine g_callVq1 (as := [_]) (rest := []) mt_X12_isCommit mi_X12_isCommit se_X12_isCommit ml_X12_229 dX12_origin_2 (q0 := 5) rfl rfl (sh_711 hOK) rfl rfl (ok_isCommit hOK e2) rfl ⟨by decide, by decide⟩ (Nat.le_of_ble_eq_true rfl) ⟨Nat.zero_le _, Nat.zero_le _⟩ ?_
  refine g_if_eq (q0 := 8) (tgt := 27) rfl dX12_origin_5 (by decide) (fun h5 => ?_) (fun h5 => ?_)
  · replace h := gI_pos h5 h
    refine g_iconst (q0 := 28) rfl dX12_origin_27 (k := ?_)
    rw [← Option.some.inj h]
    refine g_ireturn dX12_origin_28 rfl ⟨Nat.zero_le _, Nat.zero_le _⟩ ?_
    exact ⟨rfl, rfl, rfl⟩
  · replace h := gI_neg h5 h
    refine g_iload_n (q0 := 9) (j := 2) rfl dX12_origin_8 rfl ?_
    refine g_iconst (q0 := 10) rfl dX12_origin_9 (k := ?_)
    refine g_bipush (q0 := 12) rfl dX12_origin_10 (k := ?_)
    obtain ⟨r12, e12, h⟩ := gI_bd h
    refine g_callSq1 (as := [_, _, _]) (rest := []) mt_X12_in ms_X12_in ml_X12_182 dX12_origin_12 (q0 := 15) rfl rfl (ok_in hOK e12) rfl ⟨by decide, by decide⟩ (Nat.le_of_ble_eq_true rfl) ⟨Nat.zero_le _, Nat.zero_le _⟩ ?_
    refine g_if_eq (q0 := 18) (tgt := 27) rfl dX12_origin_15 (by decide) (fun h15 => ?_) (fun h15 => ?_)
    · replace h := gI_pos h15 h
      refine g_iconst (q0 := 28) rfl dX12_origin_27 (k := ?_)
      rw [← Option.some.inj h]
      refine g_ireturn dX12_origin_28 rfl ⟨Nat.zero_le _, Nat.zero_le _⟩ ?_
      exact ⟨rfl, rfl, rfl⟩
    · replace h := gI_neg h15 h
      refine g_iload_n (q0 := 19) (j := 3) rfl dX12_origin_18 rfl ?_
      refine g_iconst (q0 := 20) rfl dX12_origin_19 (k := ?_)
      refine g_iconst (q0 := 21) rfl dX12_origin_20 (k := ?_)
      obtain ⟨r21, e21, h⟩ := gI_bd h
      refine g_callSq1 (as := [_, _, _]) (rest := []) mt_X12_in ms_X12_in ml_X12_182 dX12_origin_21 (q0 := 24) rfl rfl (ok_in hOK e21) rfl ⟨by decide, by decide⟩ (Nat.le_of_ble_eq_true rfl) ⟨Nat.zero_le _, Nat.zero_le _⟩ ?_
      refine g_if_ne (q0 := 27) (tgt := 29) rfl dX12_origin_24 (by decide) (fun h24 => ?_) (fun h24 => ?_)
      · replace h := gI_neg h24 h
        refine g_iload_n (q0 := 30) (j := 2) rfl dX12_origin_29 rfl ?_
        refine g_aload_n (q0 := 31) (j := 0) rfl dX12_origin_30 rfl ?_
        refine g_getp (q0 := 34) (b := 718) rfl ff_X12_28 dX12_origin_31 rfl hOK (by decide) (sh_711 hOK) rfl (by decide) ?_
        refine g_iload_n (q0 := 35) (j := 1) rfl dX12_origin_34 rfl ?_
        obtain ⟨g3, h⟩ := gI_gd h
        refine g_iald (q0 := 36) rfl dX12_origin_35 (sh_718 hOK) g3.1 g3.2 ?_
        refine g_icmp_lt (q0 := 39) (tgt := 42) rfl dX12_origin_36 (by decide) (fun h36 => ?_) (fun h36 => ?_)
        · replace h := gI_pos h36 h
          refine g_aload_n (q0 := 43) (j := 0) rfl dX12_origin_42 rfl ?_
          refine g_iload_n (q0 := 44) (j := 1) rfl dX12_origin_43 rfl ?_
          refine g_put (q0 := 47) (t := 0) (fi := 60) rfl rfl ff_X12_749 dX12_origin_44 rfl (sh_711 hOK) rfl (fun _ => ⟨rfl, rfl⟩) ?_
          have hOK4 : gOK sh (gU M 711 60 a1) := gOK_o hOK (sh_711 hOK) (f := 60) rfl rfl
          refine g_aload_n (q0 := 48) (j := 0) rfl dX12_origin_47 rfl ?_
          refine g_iload_n (q0 := 49) (j := 2) rfl dX12_origin_48 rfl ?_
          refine g_put (q0 := 52) (t := 0) (fi := 61) rfl rfl ff_X12_752 dX12_origin_49 rfl (sh_711 hOK4) rfl (fun _ => ⟨rfl, rfl⟩) ?_
          have hOK5 : gOK sh (gU (gU M 711 60 a1) 711 61 a2) := gOK_o hOK4 (sh_711 hOK4) (f := 61) rfl rfl
          refine g_aload_n (q0 := 53) (j := 0) rfl dX12_origin_52 rfl ?_
          refine g_iconst (q0 := 54) rfl dX12_origin_53 (k := ?_)
          refine g_put (q0 := 57) (t := 0) (fi := 62) rfl rfl ff_X12_755 dX12_origin_54 rfl (sh_711 hOK5) rfl (fun _ => ⟨rfl, rfl⟩) ?_
          have hOK6 : gOK sh (gU (gU (gU M 711 60 a1) 711 61 a2) 711 62 0) := gOK_o hOK5 (sh_711 hOK5) (f := 62) rfl rfl
          refine g_aload_n (q0 := 58) (j := 0) rfl dX12_origin_57 rfl ?_
          refine g_iconst (q0 := 59) rfl dX12_origin_58 (k := ?_)
          refine g_put (q0 := 62) (t := 0) (fi := 63) rfl rfl ff_X12_758 dX12_origin_59 rfl (sh_711 hOK6) rfl (fun _ => ⟨rfl, rfl⟩) ?_
          have hOK7 : gOK sh (gU (gU (gU (gU M 711 60 a1) 711 61 a2) 711 62 0) 711 63 0) := gOK_o hOK6 (sh_711 hOK6) (f := 63) rfl rfl
          refine g_aload_n (q0 := 63) (j := 0) rfl dX12_origin_62 rfl ?_
          refine g_fconst1 (q0 := 64) rfl dX12_origin_63 ?_
          refine g_put (q0 := 67) (t := 2) (fi := 64) rfl rfl ff_X12_761 dX12_origin_64 rfl (sh_711 hOK7) rfl (fun _ => ⟨rfl, rfl⟩) ?_
          have hOK8 : gOK sh (gU (gU (gU (gU (gU M 711 60 a1) 711 61 a2) 711 62 0) 711 63 0) 711 64 (gfl FP.fconst1)) := gOK_o hOK7 (sh_711 hOK7) (f := 64) rfl rfl
          refine g_iconst (q0 := 68) rfl dX12_origin_67 (k := ?_)
          refine g_istore (q0 := 70) (j := 4) (lv2 := [_, _, _, _, _]) rfl dX12_origin_68 (by decide) rfl rfl ?_
          exact ok_origin_70 hOK8 h
        · replace h := gI_neg (Int.not_lt.mpr h36) h
          refine g_bipush (q0 := 41) rfl dX12_origin_39 (k := ?_)
          rw [← Option.some.inj h]
          refine g_ireturn dX12_origin_41 rfl ⟨Nat.zero_le _, Nat.zero_le _⟩ ?_
          exact ⟨rfl, rfl, rfl⟩
      · replace h := gI_pos h24 h
        refine g_iconst (q0 := 28) rfl dX12_origin_27 (k := ?_)
        rw [← Option.some.inj h]
        refine g_ireturn dX12_origin_28 rfl ⟨Nat.zero_le _, Nat.zero_le _⟩ ?_
        exact ⟨rfl, rfl, rfl⟩
-- ==== copies
theorem dX12_copies_0 : decode cX12_copies 0 = .ok (.iconst 0, 1) := by decide +kernel
theorem dX12_copies_1 : decode cX12_copies 1 = .ok (.istore_n 3, 1) := by decide +kernel
theorem dX12_copies_2 : decode cX12_copies 2 = .ok (.iload_n 3, 1) := by decide +kernel
theorem dX12_copies_3 : decode cX12_copies 3 = .ok (.iload_n 2, 1) := by decide +kernel
theorem dX12_copies_4 : decode cX12_copies 4 = .ok (.if_icmp .ge 15, 3) := by decide +kernel
theorem dX12_copies_7 : decode cX12_copies 7 = .ok (.aload_n 1, 1) := by decide +kernel
theorem dX12_copies_8 : decode cX12_copies 8 = .ok (.iload_n 3, 1) := by decide +kernel
theorem dX12_copies_9 : decode cX12_copies 9 = .ok (.aload_n 0, 1) := by decide +kernel
theorem dX12_copies_10 : decode cX12_copies 10 = .ok (.iload_n 3, 1) := by decide +kernel
theorem dX12_copies_11 : decode cX12_copies 11 = .ok (.iaload, 1) := by decide +kernel
theorem dX12_copies_12 : decode cX12_copies 12 = .ok (.iastore, 1) := by decide +kernel
theorem dX12_copies_13 : decode cX12_copies 13 = .ok (.iinc 3 1, 3) := by decide +kernel
theorem dX12_copies_16 : decode cX12_copies 16 = .ok (.goto (-14), 3) := by decide +kernel
theorem dX12_copies_19 : decode cX12_copies 19 = .ok (.return_, 1) := by decide +kernel
noncomputable def st_copies : Nat × List Int × gM → Option ((Nat × List Int × gM) ⊕ (gM))
  | (0, [a0, a1, x2, x3], M) => (if x3 < x2 then
      (if gAx a0 x3 then
        (if gAx a1 x3 then
          some (.inl (0, [a0, a1, x2, (gw32 (x3 + 1))], (gU M a1 x3 (M a0 x3))))
        else none)
      else none)
    else
      some (.inr M))
  | _ => none
theorem sk_copies_2 (k : Nat × List Int × gM → Option (gM)) (M : gM) (a0 a1 x2 x3 : Int) : gWk k (st_copies (0, [a0, a1, x2, x3], M)) = (if x3 < x2 then
    (if gAx a0 x3 then
      (if gAx a1 x3 then
        k (0, [a0, a1, x2, (gw32 (x3 + 1))], (gU M a1 x3 (M a0 x3)))
      else none)
    else none)
  else
    some M) := by
  simp only [st_copies, gWk_ite, gWk_bind, gWk_inl, gWk_inr, gWk_none]
noncomputable def F_copies_2 (M : gM) (a0 a1 x2 x3 : Int) : Option (gM) := gWh (st_copies) (0, [a0, a1, x2, x3], M)
theorem eq_copies_2 (M : gM) (a0 a1 x2 x3 : Int) : F_copies_2 M a0 a1 x2 x3 = (if x3 < x2 then
    (if gAx a0 x3 then
      (if gAx a1 x3 then
        F_copies_2 (gU M a1 x3 (M a0 x3)) a0 a1 x2 (gw32 (x3 + 1))
      else none)
    else none)
  else
    some M) := (gWh_eq _).trans (sk_copies_2 _ M a0 a1 x2 x3)
noncomputable def F_copies (M : gM) (a0 a1 a2 : Int) : Option (gM) := F_copies_2 M a0 a1 a2 0
theorem eq_copies (M : gM) (a0 a1 a2 : Int) : F_copies M a0 a1 a2 = F_copies_2 M a0 a1 a2 0 := rfl
theorem frp_copies : ∀ (s : Nat × List Int × gM) (b : gM), gWh (st_copies) s = some b → (∀ (a0 a1 x2 x3 : Int) (M : gM), s = (0, [a0, a1, x2, x3], M) → gFr [a1] [] M b) := by
  refine gWh_ind (fun k hk s b h => ?_)
  · rintro a0 a1 x2 x3 M rfl
    rw [sk_copies_2] at h
    rcases gI_or h with h | h
    · obtain ⟨g1, h⟩ := gI_gd h
      obtain ⟨g2, h⟩ := gI_gd h
      exact gFr_t (gFr_a (gFr_r2 [a1] [] _) (.head _) (by omega)) ((hk _ _ h) _ _ _ _ _ rfl) (fun _ z => z) (fun _ z => z)
    · rw [← Option.some.inj h]
      exact (gFr_r2 [a1] [] _)
theorem fr_copies_2 {M : gM} {a0 a1 x2 x3 : Int} {b : gM} (h : F_copies_2 M a0 a1 x2 x3 = some b) : gFr [a1] [] M b :=
  (frp_copies _ _ h) _ _ _ _ _ rfl
theorem fr_copies {M : gM} {a0 a1 a2 : Int} {b : gM} (h : F_copies M a0 a1 a2 = some b) : gFr [a1] [] M b := by
  rw [eq_copies] at h
  exact gFr_t (gFr_r2 [a1] [] _) (fr_copies_2 h) (fun _ z => z) (fun _ z => z)
theorem okp_copies {sh : gS} : ∀ (s : Nat × List Int × gM) (b : gM), gWh (st_copies) s = some b → (∀ (a0 a1 x2 x3 : Int) (M : gM), s = (0, [a0, a1, x2, x3], M) → gOK sh M → gA (gr 0 0) yX12_copies cX12_copies 4 none (gPq sh none b) (0, 0) 2 [(4, a0), (4, a1), (0, x2), (0, x3)] [] sh M) := by
  refine gWh_ind (fun k hk s b h => ?_)
  · rintro a0 a1 x2 x3 M rfl hOK
    rw [sk_copies_2] at h
    refine g_iload_n (q0 := 3) (j := 3) rfl dX12_copies_2 rfl ?_
    refine g_iload_n (q0 := 4) (j := 2) rfl dX12_copies_3 rfl ?_
    refine g_icmp_ge (q0 := 7) (tgt := 19) rfl dX12_copies_4 (by decide) (fun h4 => ?_) (fun h4 => ?_)
    · replace h := gI_neg (Int.not_lt.mpr h4) h
      rw [← Option.some.inj h]
      refine g_return dX12_copies_19 rfl ⟨Nat.zero_le _, Nat.zero_le _⟩ ?_
      exact ⟨rfl, rfl, rfl⟩
    · replace h := gI_pos h4 h
      refine g_aload_n (q0 := 8) (j := 1) rfl dX12_copies_7 rfl ?_
      refine g_iload_n (q0 := 9) (j := 3) rfl dX12_copies_8 rfl ?_
      refine g_aload_n (q0 := 10) (j := 0) rfl dX12_copies_9 rfl ?_
      refine g_iload_n (q0 := 11) (j := 3) rfl dX12_copies_10 rfl ?_
      obtain ⟨g1, h⟩ := gI_gd h
      obtain ⟨ng1, hsg1, hxg1, hyg1⟩ := gAx_sh hOK g1
      refine g_iald (q0 := 12) rfl dX12_copies_11 hsg1 hxg1 hyg1 ?_
      obtain ⟨g2, h⟩ := gI_gd h
      obtain ⟨ng2, hsg2, hxg2, hyg2⟩ := gAx_sh hOK g2
      refine g_iast (q0 := 13) rfl dX12_copies_12 hsg2 hxg2 hyg2 ?_
      have hOK3 : gOK sh (gU M a1 x3 (M a0 x3)) := gOK_i hOK hsg2
      refine g_iincw (q0 := 16) (lv2 := [_, _, _, _]) rfl dX12_copies_13 rfl (by decide) rfl rfl ?_
      refine g_goto (tgt := 2) dX12_copies_16 (by decide) ?_
      exact (hk _ _ h) _ _ _ _ _ rfl hOK3
theorem ok_copies_2 {sh : gS} {M : gM} {a0 a1 x2 x3 : Int} {b : gM} (hOK : gOK sh M) (h : F_copies_2 M a0 a1 x2 x3 = some b) : gA (gr 0 0) yX12_copies cX12_copies 4 none (gPq sh none b) (0, 0) 2 [(4, a0), (4, a1), (0, x2), (0, x3)] [] sh M :=
  (okp_copies _ _ h) _ _ _ _ _ rfl hOK
theorem ok_copies {sh : gS} {M : gM} {a0 a1 a2 : Int} {b : gM} (hOK : gOK sh M) (h : F_copies M a0 a1 a2 = some b) : gC (gr 0 0) yX12_copies cX12_copies 4 none [(4, a0), (4, a1), (0, a2)] sh M (gPq sh none b) := by
  rw [eq_copies] at h
  refine gC_ofA (lv := [_, _, _, _]) (by decide +kernel) (Nat.le_of_ble_eq_true rfl) rfl (fun hMw hav => ?_)
  refine g_iconst (q0 := 1) rfl dX12_copies_0 (k := ?_)
  refine g_istore_n (q0 := 2) (j := 3) (lv2 := [_, _, _, _]) rfl dX12_copies_1 (by decide) rfl rfl ?_
  exact ok_copies_2 hOK h
-- ==== keep
theorem dX12_keep_0 : decode cX12_keep 0 = .ok (.aload_n 0, 1) := by decide +kernel
theorem dX12_keep_1 : decode cX12_keep 1 = .ok (.iconst 1, 1) := by decide +kernel
theorem dX12_keep_2 : decode cX12_keep 2 = .ok (.putfield 774, 3) := by decide +kernel
theorem dX12_keep_5 : decode cX12_keep 5 = .ok (.aload_n 0, 1) := by decide +kernel
theorem dX12_keep_6 : decode cX12_keep 6 = .ok (.aload_n 0, 1) := by decide +kernel
theorem dX12_keep_7 : decode cX12_keep 7 = .ok (.getfield 178, 3) := by decide +kernel
theorem dX12_keep_10 : decode cX12_keep 10 = .ok (.putfield 778, 3) := by decide +kernel
theorem dX12_keep_13 : decode cX12_keep 13 = .ok (.aload_n 0, 1) := by decide +kernel
theorem dX12_keep_14 : decode cX12_keep 14 = .ok (.getfield 57, 3) := by decide +kernel
theorem dX12_keep_17 : decode cX12_keep 17 = .ok (.aload_n 0, 1) := by decide +kernel
theorem dX12_keep_18 : decode cX12_keep 18 = .ok (.getfield 135, 3) := by decide +kernel
theorem dX12_keep_21 : decode cX12_keep 21 = .ok (.sipush 208, 3) := by decide +kernel
theorem dX12_keep_24 : decode cX12_keep 24 = .ok (.invokestatic 781, 3) := by decide +kernel
theorem dX12_keep_27 : decode cX12_keep 27 = .ok (.aload_n 0, 1) := by decide +kernel
theorem dX12_keep_28 : decode cX12_keep 28 = .ok (.getfield 60, 3) := by decide +kernel
theorem dX12_keep_31 : decode cX12_keep 31 = .ok (.aload_n 0, 1) := by decide +kernel
theorem dX12_keep_32 : decode cX12_keep 32 = .ok (.getfield 138, 3) := by decide +kernel
theorem dX12_keep_35 : decode cX12_keep 35 = .ok (.sipush 208, 3) := by decide +kernel
theorem dX12_keep_38 : decode cX12_keep 38 = .ok (.invokestatic 781, 3) := by decide +kernel
theorem dX12_keep_41 : decode cX12_keep 41 = .ok (.aload_n 0, 1) := by decide +kernel
theorem dX12_keep_42 : decode cX12_keep 42 = .ok (.getfield 63, 3) := by decide +kernel
theorem dX12_keep_45 : decode cX12_keep 45 = .ok (.aload_n 0, 1) := by decide +kernel
theorem dX12_keep_46 : decode cX12_keep 46 = .ok (.getfield 141, 3) := by decide +kernel
theorem dX12_keep_49 : decode cX12_keep 49 = .ok (.sipush 272, 3) := by decide +kernel
theorem dX12_keep_52 : decode cX12_keep 52 = .ok (.invokestatic 781, 3) := by decide +kernel
theorem dX12_keep_55 : decode cX12_keep 55 = .ok (.aload_n 0, 1) := by decide +kernel
theorem dX12_keep_56 : decode cX12_keep 56 = .ok (.getfield 66, 3) := by decide +kernel
theorem dX12_keep_59 : decode cX12_keep 59 = .ok (.aload_n 0, 1) := by decide +kernel
theorem dX12_keep_60 : decode cX12_keep 60 = .ok (.getfield 144, 3) := by decide +kernel
theorem dX12_keep_63 : decode cX12_keep 63 = .ok (.sipush 480, 3) := by decide +kernel
theorem dX12_keep_66 : decode cX12_keep 66 = .ok (.invokestatic 781, 3) := by decide +kernel
theorem dX12_keep_69 : decode cX12_keep 69 = .ok (.aload_n 0, 1) := by decide +kernel
theorem dX12_keep_70 : decode cX12_keep 70 = .ok (.getfield 69, 3) := by decide +kernel
theorem dX12_keep_73 : decode cX12_keep 73 = .ok (.aload_n 0, 1) := by decide +kernel
theorem dX12_keep_74 : decode cX12_keep 74 = .ok (.getfield 147, 3) := by decide +kernel
theorem dX12_keep_77 : decode cX12_keep 77 = .ok (.sipush 480, 3) := by decide +kernel
theorem dX12_keep_80 : decode cX12_keep 80 = .ok (.invokestatic 781, 3) := by decide +kernel
theorem dX12_keep_83 : decode cX12_keep 83 = .ok (.aload_n 0, 1) := by decide +kernel
theorem dX12_keep_84 : decode cX12_keep 84 = .ok (.getfield 178, 3) := by decide +kernel
theorem dX12_keep_87 : decode cX12_keep 87 = .ok (.ireturn, 1) := by decide +kernel
noncomputable def F_keep (M : gM) : Option (Int × gM) := (Option.bind (F_copies (gU (gU M 711 71 1) 711 70 ((gU M 711 71 1) 711 0)) 727 753 208) (fun m24 =>
    (Option.bind (F_copies m24 728 754 208) (fun m38 =>
      (Option.bind (F_copies m38 729 755 272) (fun m52 =>
        (Option.bind (F_copies m52 730 756 480) (fun m66 =>
          (Option.bind (F_copies m66 731 757 480) (fun m80 =>
            some ((m80 711 0), m80)))))))))))
theorem eq_keep (M : gM) : F_keep M = (Option.bind (F_copies (gU (gU M 711 71 1) 711 70 ((gU M 711 71 1) 711 0)) 727 753 208) (fun m24 =>
    (Option.bind (F_copies m24 728 754 208) (fun m38 =>
      (Option.bind (F_copies m38 729 755 272) (fun m52 =>
        (Option.bind (F_copies m52 730 756 480) (fun m66 =>
          (Option.bind (F_copies m66 731 757 480) (fun m80 =>
            some ((m80 711 0), m80))))))))))) := rfl
theorem fr_keep {M : gM} {b : Int × gM} (h : F_keep M = some b) : gFr [753, 754, 755, 756, 757] [70, 71] M b.2 := by
  rw [eq_keep] at h
  obtain ⟨m24, e24, h⟩ := gI_bd h
  obtain ⟨m38, e38, h⟩ := gI_bd h
  obtain ⟨m52, e52, h⟩ := gI_bd h
  obtain ⟨m66, e66, h⟩ := gI_bd h
  obtain ⟨m80, e80, h⟩ := gI_bd h
  rw [← Option.some.inj h]
  exact (gFr_t (gFr_t (gFr_t (gFr_t (gFr_t (gFr_f (gFr_f (gFr_r [753, 754, 755, 756, 757] [70, 71] _) (.tail _ (.head _))) (.head _)) (fr_copies (b := m24) e24) (by first | decide | simp) (by decide)) (fr_copies (b := m38) e38) (by first | decide | simp) (by decide)) (fr_copies (b := m52) e52) (by first | decide | simp) (by decide)) (fr_copies (b := m66) e66) (by first | decide | simp) (by decide)) (fr_copies (b := m80) e80) (by first | decide | simp) (by decide))
theorem ok_keep {sh : gS} {M : gM} {b : Int × gM} (hOK : gOK sh M) (h : F_keep M = some b) : gC (gr 1 23) yX12_keep cX12_keep 1 (some (.int)) [(4, 711)] sh M (gPq sh (some (0, b.1)) b.2) := by
  rw [eq_keep] at h
  refine gC_ofA (lv := [_]) (by decide +kernel) (Nat.le_of_ble_eq_true rfl) rfl (fun hMw hav => ?_)
  refine g_aload_n (q0 := 1) (j := 0) rfl dX12_keep_0 rfl ?_
  refine g_iconst (q0 := 2) rfl dX12_keep_1 (k := ?_)
  refine g_put (q0 := 5) (t := 0) (fi := 71) rfl rfl ff_X12_774 dX12_keep_2 rfl (sh_711 hOK) rfl (gfz (Or.inr rfl)) ?_
  have hOK1 : gOK sh (gU M 711 71 1) := gOK_o hOK (sh_711 hOK) (f := 71) rfl rfl
  refine g_aload_n (q0 := 6) (j := 0) rfl dX12_keep_5 rfl ?_
  refine g_aload_n (q0 := 7) (j := 0) rfl dX12_keep_6 rfl ?_
  refine g_getf (q0 := 10) (t := 0) (fi := 0) rfl rfl ff_X12_178 dX12_keep_7 rfl (sh_711 hOK1) ?_
  refine g_put (q0 := 13) (t := 0) (fi := 70) rfl rfl ff_X12_778 dX12_keep_10 rfl (sh_711 hOK1) rfl (fun _ => ⟨rfl, rfl⟩) ?_
  have hOK2 : gOK sh (gU (gU M 711 71 1) 711 70 ((gU M 711 71 1) 711 0)) := gOK_o hOK1 (sh_711 hOK1) (f := 70) rfl rfl
  refine g_aload_n (q0 := 14) (j := 0) rfl dX12_keep_13 rfl ?_
  refine g_getp (q0 := 17) (b := 727) rfl ff_X12_57 dX12_keep_14 rfl hOK2 (by decide) (sh_711 hOK2) rfl (by decide) ?_
  refine g_aload_n (q0 := 18) (j := 0) rfl dX12_keep_17 rfl ?_
  refine g_getp (q0 := 21) (b := 753) rfl ff_X12_135 dX12_keep_18 rfl hOK2 (by decide) (sh_711 hOK2) rfl (by decide) ?_
  refine g_sipush (q0 := 24) rfl dX12_keep_21 (k := ?_)
  obtain ⟨m24, e24, h⟩ := gI_bd h
  refine g_callSq0 (as := [_, _, _]) (rest := []) mt_X12_copies ms_X12_copies ml_X12_781 dX12_keep_24 (q0 := 27) rfl rfl (ok_copies hOK2 e24) rfl ⟨by decide, by decide⟩ (Nat.le_of_ble_eq_true rfl) ⟨Nat.zero_le _, Nat.zero_le _⟩ ?_
  have hOK3 : gOK sh m24 := gOK_fr hOK2 (fr_copies (b := m24) e24) (by first | decide | (intro a ha; simp only [List.mem_cons, List.not_mem_nil, or_false] at ha; omega)) (by decide)
  refine g_aload_n (q0 := 28) (j := 0) rfl dX12_keep_27 rfl ?_
  refine g_getp (q0 := 31) (b := 728) rfl ff_X12_60 dX12_keep_28 rfl hOK3 (by decide) (sh_711 hOK3) rfl (by decide) ?_
  refine g_aload_n (q0 := 32) (j := 0) rfl dX12_keep_31 rfl ?_
  refine g_getp (q0 := 35) (b := 754) rfl ff_X12_138 dX12_keep_32 rfl hOK3 (by decide) (sh_711 hOK3) rfl (by decide) ?_
  refine g_sipush (q0 := 38) rfl dX12_keep_35 (k := ?_)
  obtain ⟨m38, e38, h⟩ := gI_bd h
  refine g_callSq0 (as := [_, _, _]) (rest := []) mt_X12_copies ms_X12_copies ml_X12_781 dX12_keep_38 (q0 := 41) rfl rfl (ok_copies hOK3 e38) rfl ⟨by decide, by decide⟩ (Nat.le_of_ble_eq_true rfl) ⟨Nat.zero_le _, Nat.zero_le _⟩ ?_
  have hOK4 : gOK sh m38 := gOK_fr hOK3 (fr_copies (b := m38) e38) (by first | decide | (intro a ha; simp only [List.mem_cons, List.not_mem_nil, or_false] at ha; omega)) (by decide)
  refine g_aload_n (q0 := 42) (j := 0) rfl dX12_keep_41 rfl ?_
  refine g_getp (q0 := 45) (b := 729) rfl ff_X12_63 dX12_keep_42 rfl hOK4 (by decide) (sh_711 hOK4) rfl (by decide) ?_
  refine g_aload_n (q0 := 46) (j := 0) rfl dX12_keep_45 rfl ?_
  refine g_getp (q0 := 49) (b := 755) rfl ff_X12_141 dX12_keep_46 rfl hOK4 (by decide) (sh_711 hOK4) rfl (by decide) ?_
  refine g_sipush (q0 := 52) rfl dX12_keep_49 (k := ?_)
  obtain ⟨m52, e52, h⟩ := gI_bd h
  refine g_callSq0 (as := [_, _, _]) (rest := []) mt_X12_copies ms_X12_copies ml_X12_781 dX12_keep_52 (q0 := 55) rfl rfl (ok_copies hOK4 e52) rfl ⟨by decide, by decide⟩ (Nat.le_of_ble_eq_true rfl) ⟨Nat.zero_le _, Nat.zero_le _⟩ ?_
  have hOK5 : gOK sh m52 := gOK_fr hOK4 (fr_copies (b := m52) e52) (by first | decide | (intro a ha; simp only [List.mem_cons, List.not_mem_nil, or_false] at ha; omega)) (by decide)
  refine g_aload_n (q0 := 56) (j := 0) rfl dX12_keep_55 rfl ?_
  refine g_getp (q0 := 59) (b := 730) rfl ff_X12_66 dX12_keep_56 rfl hOK5 (by decide) (sh_711 hOK5) rfl (by decide) ?_
  refine g_aload_n (q0 := 60) (j := 0) rfl dX12_keep_59 rfl ?_
  refine g_getp (q0 := 63) (b := 756) rfl ff_X12_144 dX12_keep_60 rfl hOK5 (by decide) (sh_711 hOK5) rfl (by decide) ?_
  refine g_sipush (q0 := 66) rfl dX12_keep_63 (k := ?_)
  obtain ⟨m66, e66, h⟩ := gI_bd h
  refine g_callSq0 (as := [_, _, _]) (rest := []) mt_X12_copies ms_X12_copies ml_X12_781 dX12_keep_66 (q0 := 69) rfl rfl (ok_copies hOK5 e66) rfl ⟨by decide, by decide⟩ (Nat.le_of_ble_eq_true rfl) ⟨Nat.zero_le _, Nat.zero_le _⟩ ?_
  have hOK6 : gOK sh m66 := gOK_fr hOK5 (fr_copies (b := m66) e66) (by first | decide | (intro a ha; simp only [List.mem_cons, List.not_mem_nil, or_false] at ha; omega)) (by decide)
  refine g_aload_n (q0 := 70) (j := 0) rfl dX12_keep_69 rfl ?_
  refine g_getp (q0 := 73) (b := 731) rfl ff_X12_69 dX12_keep_70 rfl hOK6 (by decide) (sh_711 hOK6) rfl (by decide) ?_
  refine g_aload_n (q0 := 74) (j := 0) rfl dX12_keep_73 rfl ?_
  refine g_getp (q0 := 77) (b := 757) rfl ff_X12_147 dX12_keep_74 rfl hOK6 (by decide) (sh_711 hOK6) rfl (by decide) ?_
  refine g_sipush (q0 := 80) rfl dX12_keep_77 (k := ?_)
  obtain ⟨m80, e80, h⟩ := gI_bd h
  refine g_callSq0 (as := [_, _, _]) (rest := []) mt_X12_copies ms_X12_copies ml_X12_781 dX12_keep_80 (q0 := 83) rfl rfl (ok_copies hOK6 e80) rfl ⟨by decide, by decide⟩ (Nat.le_of_ble_eq_true rfl) ⟨Nat.zero_le _, Nat.zero_le _⟩ ?_
  have hOK7 : gOK sh m80 := gOK_fr hOK6 (fr_copies (b := m80) e80) (by first | decide | (intro a ha; simp only [List.mem_cons, List.not_mem_nil, or_false] at ha; omega)) (by decide)
  refine g_aload_n (q0 := 84) (j := 0) rfl dX12_keep_83 rfl ?_
  refine g_getf (q0 := 87) (t := 0) (fi := 0) rfl rfl ff_X12_178 dX12_keep_84 rfl (sh_711 hOK7) ?_
  rw [← Option.some.inj h]
  refine g_ireturn dX12_keep_87 rfl ⟨Nat.zero_le _, Nat.zero_le _⟩ ?_
  exact ⟨rfl, rfl, rfl⟩
-- ==== undo
theorem dX12_undo_0 : decode cX12_undo 0 = .ok (.aload_n 0, 1) := by decide +kernel
theorem dX12_undo_1 : decode cX12_undo 1 = .ok (.getfield 774, 3) := by decide +kernel
theorem dX12_undo_4 : decode cX12_undo 4 = .ok (.ifCond .ne 5, 3) := by decide +kernel
theorem dX12_undo_7 : decode cX12_undo 7 = .ok (.iconst 0, 1) := by decide +kernel
theorem dX12_undo_8 : decode cX12_undo 8 = .ok (.ireturn, 1) := by decide +kernel
theorem dX12_undo_9 : decode cX12_undo 9 = .ok (.aload_n 0, 1) := by decide +kernel
theorem dX12_undo_10 : decode cX12_undo 10 = .ok (.aload_n 0, 1) := by decide +kernel
theorem dX12_undo_11 : decode cX12_undo 11 = .ok (.getfield 778, 3) := by decide +kernel
theorem dX12_undo_14 : decode cX12_undo 14 = .ok (.putfield 178, 3) := by decide +kernel
theorem dX12_undo_17 : decode cX12_undo 17 = .ok (.aload_n 0, 1) := by decide +kernel
theorem dX12_undo_18 : decode cX12_undo 18 = .ok (.getfield 135, 3) := by decide +kernel
theorem dX12_undo_21 : decode cX12_undo 21 = .ok (.aload_n 0, 1) := by decide +kernel
theorem dX12_undo_22 : decode cX12_undo 22 = .ok (.getfield 57, 3) := by decide +kernel
theorem dX12_undo_25 : decode cX12_undo 25 = .ok (.sipush 208, 3) := by decide +kernel
theorem dX12_undo_28 : decode cX12_undo 28 = .ok (.invokestatic 781, 3) := by decide +kernel
theorem dX12_undo_31 : decode cX12_undo 31 = .ok (.aload_n 0, 1) := by decide +kernel
theorem dX12_undo_32 : decode cX12_undo 32 = .ok (.getfield 138, 3) := by decide +kernel
theorem dX12_undo_35 : decode cX12_undo 35 = .ok (.aload_n 0, 1) := by decide +kernel
theorem dX12_undo_36 : decode cX12_undo 36 = .ok (.getfield 60, 3) := by decide +kernel
theorem dX12_undo_39 : decode cX12_undo 39 = .ok (.sipush 208, 3) := by decide +kernel
theorem dX12_undo_42 : decode cX12_undo 42 = .ok (.invokestatic 781, 3) := by decide +kernel
theorem dX12_undo_45 : decode cX12_undo 45 = .ok (.aload_n 0, 1) := by decide +kernel
theorem dX12_undo_46 : decode cX12_undo 46 = .ok (.getfield 141, 3) := by decide +kernel
theorem dX12_undo_49 : decode cX12_undo 49 = .ok (.aload_n 0, 1) := by decide +kernel
theorem dX12_undo_50 : decode cX12_undo 50 = .ok (.getfield 63, 3) := by decide +kernel
theorem dX12_undo_53 : decode cX12_undo 53 = .ok (.sipush 272, 3) := by decide +kernel
theorem dX12_undo_56 : decode cX12_undo 56 = .ok (.invokestatic 781, 3) := by decide +kernel
theorem dX12_undo_59 : decode cX12_undo 59 = .ok (.aload_n 0, 1) := by decide +kernel
theorem dX12_undo_60 : decode cX12_undo 60 = .ok (.getfield 144, 3) := by decide +kernel
theorem dX12_undo_63 : decode cX12_undo 63 = .ok (.aload_n 0, 1) := by decide +kernel
theorem dX12_undo_64 : decode cX12_undo 64 = .ok (.getfield 66, 3) := by decide +kernel
theorem dX12_undo_67 : decode cX12_undo 67 = .ok (.sipush 480, 3) := by decide +kernel
theorem dX12_undo_70 : decode cX12_undo 70 = .ok (.invokestatic 781, 3) := by decide +kernel
theorem dX12_undo_73 : decode cX12_undo 73 = .ok (.aload_n 0, 1) := by decide +kernel
theorem dX12_undo_74 : decode cX12_undo 74 = .ok (.getfield 147, 3) := by decide +kernel
theorem dX12_undo_77 : decode cX12_undo 77 = .ok (.aload_n 0, 1) := by decide +kernel
theorem dX12_undo_78 : decode cX12_undo 78 = .ok (.getfield 69, 3) := by decide +kernel
theorem dX12_undo_81 : decode cX12_undo 81 = .ok (.sipush 480, 3) := by decide +kernel
theorem dX12_undo_84 : decode cX12_undo 84 = .ok (.invokestatic 781, 3) := by decide +kernel
theorem dX12_undo_87 : decode cX12_undo 87 = .ok (.iconst 1, 1) := by decide +kernel
theorem dX12_undo_88 : decode cX12_undo 88 = .ok (.ireturn, 1) := by decide +kernel
noncomputable def F_undo (M : gM) : Option (Int × gM) := (if (M 711 71) = 0 then
    some (0, M)
  else
    (Option.bind (F_copies (gU M 711 0 (M 711 70)) 753 727 208) (fun m28 =>
      (Option.bind (F_copies m28 754 728 208) (fun m42 =>
        (Option.bind (F_copies m42 755 729 272) (fun m56 =>
          (Option.bind (F_copies m56 756 730 480) (fun m70 =>
            (Option.bind (F_copies m70 757 731 480) (fun m84 =>
              some (1, m84))))))))))))
theorem eq_undo (M : gM) : F_undo M = (if (M 711 71) = 0 then
    some (0, M)
  else
    (Option.bind (F_copies (gU M 711 0 (M 711 70)) 753 727 208) (fun m28 =>
      (Option.bind (F_copies m28 754 728 208) (fun m42 =>
        (Option.bind (F_copies m42 755 729 272) (fun m56 =>
          (Option.bind (F_copies m56 756 730 480) (fun m70 =>
            (Option.bind (F_copies m70 757 731 480) (fun m84 =>
              some (1, m84)))))))))))) := rfl
theorem fr_undo {M : gM} {b : Int × gM} (h : F_undo M = some b) : gFr [727, 728, 729, 730, 731] [0] M b.2 := by
  rw [eq_undo] at h
  rcases gI_or h with h | h
  · rw [← Option.some.inj h]
    exact (gFr_r [727, 728, 729, 730, 731] [0] _)
  · obtain ⟨m28, e28, h⟩ := gI_bd h
    obtain ⟨m42, e42, h⟩ := gI_bd h
    obtain ⟨m56, e56, h⟩ := gI_bd h
    obtain ⟨m70, e70, h⟩ := gI_bd h
    obtain ⟨m84, e84, h⟩ := gI_bd h
    rw [← Option.some.inj h]
    exact (gFr_t (gFr_t (gFr_t (gFr_t (gFr_t (gFr_f (gFr_r [727, 728, 729, 730, 731] [0] _) (.head _)) (fr_copies (b := m28) e28) (by first | decide | simp) (by decide)) (fr_copies (b := m42) e42) (by first | decide | simp) (by decide)) (fr_copies (b := m56) e56) (by first | decide | simp) (by decide)) (fr_copies (b := m70) e70) (by first | decide | simp) (by decide)) (fr_copies (b := m84) e84) (by first | decide | simp) (by decide))
theorem bo_undo {M : gM} {b : Int × gM} (h : F_undo M = some b) : b.1 = 0 ∨ b.1 = 1 := by
  rw [eq_undo] at h
  rcases gI_or h with h | h
  · rw [← Option.some.inj h]
    exact (Or.inl rfl)
  · obtain ⟨m28, e28, h⟩ := gI_bd h
    obtain ⟨m42, e42, h⟩ := gI_bd h
    obtain ⟨m56, e56, h⟩ := gI_bd h
    obtain ⟨m70, e70, h⟩ := gI_bd h
    obtain ⟨m84, e84, h⟩ := gI_bd h
    rw [← Option.some.inj h]
    exact (Or.inr rfl)
theorem ok_undo {sh : gS} {M : gM} {b : Int × gM} (hOK : gOK sh M) (h : F_undo M = some b) : gC (gr 1 23) yX12_undo cX12_undo 1 (some (.boolean)) [(4, 711)] sh M (gPq sh (some (0, b.1)) b.2) := by
  rw [eq_undo] at h
  refine gC_ofA (lv := [_]) (by decide +kernel) (Nat.le_of_ble_eq_true rfl) rfl (fun hMw hav => ?_)
  refine g_aload_n (q0 := 1) (j := 0) rfl dX12_undo_0 rfl ?_
  refine g_getf (q0 := 4) (t := 0) (fi := 71) rfl rfl ff_X12_774 dX12_undo_1 rfl (sh_711 hOK) ?_
  refine g_if_ne (q0 := 7) (tgt := 9) rfl dX12_undo_4 (by decide) (fun h4 => ?_) (fun h4 => ?_)
  · replace h := gI_neg h4 h
    refine g_aload_n (q0 := 10) (j := 0) rfl dX12_undo_9 rfl ?_
    refine g_aload_n (q0 := 11) (j := 0) rfl dX12_undo_10 rfl ?_
    refine g_getf (q0 := 14) (t := 0) (fi := 70) rfl rfl ff_X12_778 dX12_undo_11 rfl (sh_711 hOK) ?_
    refine g_put (q0 := 17) (t := 0) (fi := 0) rfl rfl ff_X12_178 dX12_undo_14 rfl (sh_711 hOK) rfl (fun _ => ⟨rfl, rfl⟩) ?_
    have hOK1 : gOK sh (gU M 711 0 (M 711 70)) := gOK_o hOK (sh_711 hOK) (f := 0) rfl rfl
    refine g_aload_n (q0 := 18) (j := 0) rfl dX12_undo_17 rfl ?_
    refine g_getp (q0 := 21) (b := 753) rfl ff_X12_135 dX12_undo_18 rfl hOK1 (by decide) (sh_711 hOK1) rfl (by decide) ?_
    refine g_aload_n (q0 := 22) (j := 0) rfl dX12_undo_21 rfl ?_
    refine g_getp (q0 := 25) (b := 727) rfl ff_X12_57 dX12_undo_22 rfl hOK1 (by decide) (sh_711 hOK1) rfl (by decide) ?_
    refine g_sipush (q0 := 28) rfl dX12_undo_25 (k := ?_)
    obtain ⟨m28, e28, h⟩ := gI_bd h
    refine g_callSq0 (as := [_, _, _]) (rest := []) mt_X12_copies ms_X12_copies ml_X12_781 dX12_undo_28 (q0 := 31) rfl rfl (ok_copies hOK1 e28) rfl ⟨by decide, by decide⟩ (Nat.le_of_ble_eq_true rfl) ⟨Nat.zero_le _, Nat.zero_le _⟩ ?_
    have hOK2 : gOK sh m28 := gOK_fr hOK1 (fr_copies (b := m28) e28) (by first | decide | (intro a ha; simp only [List.mem_cons, List.not_mem_nil, or_false] at ha; omega)) (by decide)
    refine g_aload_n (q0 := 32) (j := 0) rfl dX12_undo_31 rfl ?_
    refine g_getp (q0 := 35) (b := 754) rfl ff_X12_138 dX12_undo_32 rfl hOK2 (by decide) (sh_711 hOK2) rfl (by decide) ?_
    refine g_aload_n (q0 := 36) (j := 0) rfl dX12_undo_35 rfl ?_
    refine g_getp (q0 := 39) (b := 728) rfl ff_X12_60 dX12_undo_36 rfl hOK2 (by decide) (sh_711 hOK2) rfl (by decide) ?_
    refine g_sipush (q0 := 42) rfl dX12_undo_39 (k := ?_)
    obtain ⟨m42, e42, h⟩ := gI_bd h
    refine g_callSq0 (as := [_, _, _]) (rest := []) mt_X12_copies ms_X12_copies ml_X12_781 dX12_undo_42 (q0 := 45) rfl rfl (ok_copies hOK2 e42) rfl ⟨by decide, by decide⟩ (Nat.le_of_ble_eq_true rfl) ⟨Nat.zero_le _, Nat.zero_le _⟩ ?_
    have hOK3 : gOK sh m42 := gOK_fr hOK2 (fr_copies (b := m42) e42) (by first | decide | (intro a ha; simp only [List.mem_cons, List.not_mem_nil, or_false] at ha; omega)) (by decide)
    refine g_aload_n (q0 := 46) (j := 0) rfl dX12_undo_45 rfl ?_
    refine g_getp (q0 := 49) (b := 755) rfl ff_X12_141 dX12_undo_46 rfl hOK3 (by decide) (sh_711 hOK3) rfl (by decide) ?_
    refine g_aload_n (q0 := 50) (j := 0) rfl dX12_undo_49 rfl ?_
    refine g_getp (q0 := 53) (b := 729) rfl ff_X12_63 dX12_undo_50 rfl hOK3 (by decide) (sh_711 hOK3) rfl (by decide) ?_
    refine g_sipush (q0 := 56) rfl dX12_undo_53 (k := ?_)
    obtain ⟨m56, e56, h⟩ := gI_bd h
    refine g_callSq0 (as := [_, _, _]) (rest := []) mt_X12_copies ms_X12_copies ml_X12_781 dX12_undo_56 (q0 := 59) rfl rfl (ok_copies hOK3 e56) rfl ⟨by decide, by decide⟩ (Nat.le_of_ble_eq_true rfl) ⟨Nat.zero_le _, Nat.zero_le _⟩ ?_
    have hOK4 : gOK sh m56 := gOK_fr hOK3 (fr_copies (b := m56) e56) (by first | decide | (intro a ha; simp only [List.mem_cons, List.not_mem_nil, or_false] at ha; omega)) (by decide)
    refine g_aload_n (q0 := 60) (j := 0) rfl dX12_undo_59 rfl ?_
    refine g_getp (q0 := 63) (b := 756) rfl ff_X12_144 dX12_undo_60 rfl hOK4 (by decide) (sh_711 hOK4) rfl (by decide) ?_
    refine g_aload_n (q0 := 64) (j := 0) rfl dX12_undo_63 rfl ?_
    refine g_getp (q0 := 67) (b := 730) rfl ff_X12_66 dX12_undo_64 rfl hOK4 (by decide) (sh_711 hOK4) rfl (by decide) ?_
    refine g_sipush (q0 := 70) rfl dX12_undo_67 (k := ?_)
    obtain ⟨m70, e70, h⟩ := gI_bd h
    refine g_callSq0 (as := [_, _, _]) (rest := []) mt_X12_copies ms_X12_copies ml_X12_781 dX12_undo_70 (q0 := 73) rfl rfl (ok_copies hOK4 e70) rfl ⟨by decide, by decide⟩ (Nat.le_of_ble_eq_true rfl) ⟨Nat.zero_le _, Nat.zero_le _⟩ ?_
    have hOK5 : gOK sh m70 := gOK_fr hOK4 (fr_copies (b := m70) e70) (by first | decide | (intro a ha; simp only [List.mem_cons, List.not_mem_nil, or_false] at ha; omega)) (by decide)
    refine g_aload_n (q0 := 74) (j := 0) rfl dX12_undo_73 rfl ?_
    refine g_getp (q0 := 77) (b := 757) rfl ff_X12_147 dX12_undo_74 rfl hOK5 (by decide) (sh_711 hOK5) rfl (by decide) ?_
    refine g_aload_n (q0 := 78) (j := 0) rfl dX12_undo_77 rfl ?_
    refine g_getp (q0 := 81) (b := 731) rfl ff_X12_69 dX12_undo_78 rfl hOK5 (by decide) (sh_711 hOK5) rfl (by decide) ?_
    refine g_sipush (q0 := 84) rfl dX12_undo_81 (k := ?_)
    obtain ⟨m84, e84, h⟩ := gI_bd h
    refine g_callSq0 (as := [_, _, _]) (rest := []) mt_X12_copies ms_X12_copies ml_X12_781 dX12_undo_84 (q0 := 87) rfl rfl (ok_copies hOK5 e84) rfl ⟨by decide, by decide⟩ (Nat.le_of_ble_eq_true rfl) ⟨Nat.zero_le _, Nat.zero_le _⟩ ?_
    have hOK6 : gOK sh m84 := gOK_fr hOK5 (fr_copies (b := m84) e84) (by first | decide | (intro a ha; simp only [List.mem_cons, List.not_mem_nil, or_false] at ha; omega)) (by decide)
    refine g_iconst (q0 := 88) rfl dX12_undo_87 (k := ?_)
    rw [← Option.some.inj h]
    refine g_zreturn dX12_undo_88 rfl (gnz (Or.inr rfl)) ⟨Nat.zero_le _, Nat.zero_le _⟩ ?_
    exact ⟨rfl, rfl, rfl⟩
  · replace h := gI_pos h4 h
    refine g_iconst (q0 := 8) rfl dX12_undo_7 (k := ?_)
    rw [← Option.some.inj h]
    refine g_zreturn dX12_undo_8 rfl (gnz (Or.inl rfl)) ⟨Nat.zero_le _, Nat.zero_le _⟩ ?_
    exact ⟨rfl, rfl, rfl⟩
-- ==== check
theorem dX12_check_0 : decode cX12_check 0 = .ok (.iload_n 1, 1) := by decide +kernel
theorem dX12_check_1 : decode cX12_check 1 = .ok (.iconst 0, 1) := by decide +kernel
theorem dX12_check_2 : decode cX12_check 2 = .ok (.bipush 120, 2) := by decide +kernel
theorem dX12_check_4 : decode cX12_check 4 = .ok (.invokestatic 182, 3) := by decide +kernel
theorem dX12_check_7 : decode cX12_check 7 = .ok (.ifCond .eq 11, 3) := by decide +kernel
theorem dX12_check_10 : decode cX12_check 10 = .ok (.iload_n 1, 1) := by decide +kernel
theorem dX12_check_11 : decode cX12_check 11 = .ok (.aload_n 0, 1) := by decide +kernel
theorem dX12_check_12 : decode cX12_check 12 = .ok (.getfield 249, 3) := by decide +kernel
theorem dX12_check_15 : decode cX12_check 15 = .ok (.if_icmp .le 6, 3) := by decide +kernel
theorem dX12_check_18 : decode cX12_check 18 = .ok (.bipush (-2), 2) := by decide +kernel
theorem dX12_check_20 : decode cX12_check 20 = .ok (.ireturn, 1) := by decide +kernel
theorem dX12_check_21 : decode cX12_check 21 = .ok (.iconst (-1), 1) := by decide +kernel
theorem dX12_check_22 : decode cX12_check 22 = .ok (.istore_n 2, 1) := by decide +kernel
theorem dX12_check_23 : decode cX12_check 23 = .ok (.iload_n 1, 1) := by decide +kernel
theorem dX12_check_24 : decode cX12_check 24 = .ok (.iconst 1, 1) := by decide +kernel
theorem dX12_check_25 : decode cX12_check 25 = .ok (.isub, 1) := by decide +kernel
theorem dX12_check_26 : decode cX12_check 26 = .ok (.istore_n 3, 1) := by decide +kernel
theorem dX12_check_27 : decode cX12_check 27 = .ok (.iload_n 3, 1) := by decide +kernel
theorem dX12_check_28 : decode cX12_check 28 = .ok (.ifCond .lt 44, 3) := by decide +kernel
theorem dX12_check_31 : decode cX12_check 31 = .ok (.aload_n 0, 1) := by decide +kernel
theorem dX12_check_32 : decode cX12_check 32 = .ok (.getfield 53, 3) := by decide +kernel
theorem dX12_check_35 : decode cX12_check 35 = .ok (.iload_n 3, 1) := by decide +kernel
theorem dX12_check_36 : decode cX12_check 36 = .ok (.baload, 1) := by decide +kernel
theorem dX12_check_37 : decode cX12_check 37 = .ok (.sipush 255, 3) := by decide +kernel
theorem dX12_check_40 : decode cX12_check 40 = .ok (.iand, 1) := by decide +kernel
theorem dX12_check_41 : decode cX12_check 41 = .ok (.iload_n 3, 1) := by decide +kernel
theorem dX12_check_42 : decode cX12_check 42 = .ok (.aload_n 0, 1) := by decide +kernel
theorem dX12_check_43 : decode cX12_check 43 = .ok (.getfield 178, 3) := by decide +kernel
theorem dX12_check_46 : decode cX12_check 46 = .ok (.if_icmp .ge 12, 3) := by decide +kernel
theorem dX12_check_49 : decode cX12_check 49 = .ok (.aload_n 0, 1) := by decide +kernel
theorem dX12_check_50 : decode cX12_check 50 = .ok (.getfield 28, 3) := by decide +kernel
theorem dX12_check_53 : decode cX12_check 53 = .ok (.iload_n 3, 1) := by decide +kernel
theorem dX12_check_54 : decode cX12_check 54 = .ok (.iaload, 1) := by decide +kernel
theorem dX12_check_55 : decode cX12_check 55 = .ok (.goto 6, 3) := by decide +kernel
theorem dX12_check_58 : decode cX12_check 58 = .ok (.sipush 255, 3) := by decide +kernel
theorem dX12_check_61 : decode cX12_check 61 = .ok (.if_icmp .eq 5, 3) := by decide +kernel
theorem dX12_check_64 : decode cX12_check 64 = .ok (.iload_n 3, 1) := by decide +kernel
theorem dX12_check_65 : decode cX12_check 65 = .ok (.istore_n 2, 1) := by decide +kernel
theorem dX12_check_66 : decode cX12_check 66 = .ok (.iinc 3 (-1), 3) := by decide +kernel
theorem dX12_check_69 : decode cX12_check 69 = .ok (.goto (-42), 3) := by decide +kernel
theorem dX12_check_72 : decode cX12_check 72 = .ok (.aload_n 0, 1) := by decide +kernel
theorem dX12_check_73 : decode cX12_check 73 = .ok (.iconst 0, 1) := by decide +kernel
theorem dX12_check_74 : decode cX12_check 74 = .ok (.putfield 249, 3) := by decide +kernel
theorem dX12_check_77 : decode cX12_check 77 = .ok (.iload_n 2, 1) := by decide +kernel
theorem dX12_check_78 : decode cX12_check 78 = .ok (.ireturn, 1) := by decide +kernel
noncomputable def st_check : Nat × List Int × gM → Option ((Nat × List Int × gM) ⊕ (Int × gM))
  | (0, [x1, x2, x3], M) => (if x3 < 0 then
      some (.inr (x2, (gU M 711 18 0)))
    else
      (if 0 ≤ x3 ∧ x3 < 260 then
        (if x3 < (M 711 0) then
          (if 0 ≤ x3 ∧ x3 < 123 then
            (if (gand (M 726 x3) 255) = (M 718 x3) then
              some (.inl (0, [x1, x2, (gw32 (x3 + (-1)))], M))
            else
              some (.inl (0, [x1, x3, (gw32 (x3 + (-1)))], M)))
          else none)
        else
          (if (gand (M 726 x3) 255) = 255 then
            some (.inl (0, [x1, x2, (gw32 (x3 + (-1)))], M))
          else
            some (.inl (0, [x1, x3, (gw32 (x3 + (-1)))], M))))
      else none))
  | _ => none
theorem sk_check_27 (k : Nat × List Int × gM → Option (Int × gM)) (M : gM) (x1 x2 x3 : Int) : gWk k (st_check (0, [x1, x2, x3], M)) = (if x3 < 0 then
    some (x2, (gU M 711 18 0))
  else
    (if 0 ≤ x3 ∧ x3 < 260 then
      (if x3 < (M 711 0) then
        (if 0 ≤ x3 ∧ x3 < 123 then
          (if (gand (M 726 x3) 255) = (M 718 x3) then
            k (0, [x1, x2, (gw32 (x3 + (-1)))], M)
          else
            k (0, [x1, x3, (gw32 (x3 + (-1)))], M))
        else none)
      else
        (if (gand (M 726 x3) 255) = 255 then
          k (0, [x1, x2, (gw32 (x3 + (-1)))], M)
        else
          k (0, [x1, x3, (gw32 (x3 + (-1)))], M)))
    else none)) := by
  simp only [st_check, gWk_ite, gWk_bind, gWk_inl, gWk_inr, gWk_none]
noncomputable def F_check_27 (M : gM) (x1 x2 x3 : Int) : Option (Int × gM) := gWh (st_check) (0, [x1, x2, x3], M)
theorem eq_check_27 (M : gM) (x1 x2 x3 : Int) : F_check_27 M x1 x2 x3 = (if x3 < 0 then
    some (x2, (gU M 711 18 0))
  else
    (if 0 ≤ x3 ∧ x3 < 260 then
      (if x3 < (M 711 0) then
        (if 0 ≤ x3 ∧ x3 < 123 then
          (if (gand (M 726 x3) 255) = (M 718 x3) then
            F_check_27 M x1 x2 (gw32 (x3 + (-1)))
          else
            F_check_27 M x1 x3 (gw32 (x3 + (-1))))
        else none)
      else
        (if (gand (M 726 x3) 255) = 255 then
          F_check_27 M x1 x2 (gw32 (x3 + (-1)))
        else
          F_check_27 M x1 x3 (gw32 (x3 + (-1)))))
    else none)) := (gWh_eq _).trans (sk_check_27 _ M x1 x2 x3)
noncomputable def F_check (M : gM) (a1 : Int) : Option (Int × gM) := (Option.bind (F_in a1 0 120) (fun r4 =>
    (if r4 = 0 then
      some (-2, M)
    else
      (if (M 711 18) < a1 then
        some (-2, M)
      else
        F_check_27 M a1 (-1) (gw32 (a1 - (1 : Int)))))))
theorem eq_check (M : gM) (a1 : Int) : F_check M a1 = (Option.bind (F_in a1 0 120) (fun r4 =>
    (if r4 = 0 then
      some (-2, M)
    else
      (if (M 711 18) < a1 then
        some (-2, M)
      else
        F_check_27 M a1 (-1) (gw32 (a1 - (1 : Int))))))) := rfl
theorem frp_check : ∀ (s : Nat × List Int × gM) (b : Int × gM), gWh (st_check) s = some b → (∀ (x1 x2 x3 : Int) (M : gM), s = (0, [x1, x2, x3], M) → gFr [] [18] M b.2) := by
  refine gWh_ind (fun k hk s b h => ?_)
  · rintro x1 x2 x3 M rfl
    rw [sk_check_27] at h
    rcases gI_or h with h | h
    · rw [← Option.some.inj h]
      exact (gFr_f (gFr_r [] [18] _) (.head _))
    · obtain ⟨g2, h⟩ := gI_gd h
      rcases gI_or h with h | h
      · obtain ⟨g3, h⟩ := gI_gd h
        rcases gI_or h with h | h
        · exact gFr_t (gFr_r [] [18] _) ((hk _ _ h) _ _ _ _ rfl) (fun _ z => z) (fun _ z => z)
        · exact gFr_t (gFr_r [] [18] _) ((hk _ _ h) _ _ _ _ rfl) (fun _ z => z) (fun _ z => z)
      · rcases gI_or h with h | h
        · exact gFr_t (gFr_r [] [18] _) ((hk _ _ h) _ _ _ _ rfl) (fun _ z => z) (fun _ z => z)
        · exact gFr_t (gFr_r [] [18] _) ((hk _ _ h) _ _ _ _ rfl) (fun _ z => z) (fun _ z => z)
theorem fr_check_27 {M : gM} {x1 x2 x3 : Int} {b : Int × gM} (h : F_check_27 M x1 x2 x3 = some b) : gFr [] [18] M b.2 :=
  (frp_check _ _ h) _ _ _ _ rfl
theorem fr_check {M : gM} {a1 : Int} {b : Int × gM} (h : F_check M a1 = some b) : gFr [] [18] M b.2 := by
  rw [eq_check] at h
  obtain ⟨r4, e4, h⟩ := gI_bd h
  rcases gI_or h with h | h
  · rw [← Option.some.inj h]
    exact (gFr_r [] [18] _)
  · rcases gI_or h with h | h
    · rw [← Option.some.inj h]
      exact (gFr_r [] [18] _)
    · exact gFr_t (gFr_r [] [18] _) (fr_check_27 h) (fun _ z => z) (fun _ z => z)
theorem okp_check {sh : gS} : ∀ (s : Nat × List Int × gM) (b : Int × gM), gWh (st_check) s = some b → (∀ (x1 x2 x3 : Int) (M : gM), s = (0, [x1, x2, x3], M) → gOK sh M → gA (gr 1 22) yX12_check cX12_check 4 (some (.int)) (gPq sh (some (0, b.1)) b.2) (0, 0) 27 [(4, 711), (0, x1), (0, x2), (0, x3)] [] sh M) := by
  refine gWh_ind (fun k hk s b h => ?_)
  · rintro x1 x2 x3 M rfl hOK
    rw [sk_check_27] at h
    refine g_iload_n (q0 := 28) (j := 3) rfl dX12_check_27 rfl ?_
    refine g_if_lt (q0 := 31) (tgt := 72) rfl dX12_check_28 (by decide) (fun h28 => ?_) (fun h28 => ?_)
    · replace h := gI_pos h28 h
      refine g_aload_n (q0 := 73) (j := 0) rfl dX12_check_72 rfl ?_
      refine g_iconst (q0 := 74) rfl dX12_check_73 (k := ?_)
      refine g_put (q0 := 77) (t := 0) (fi := 18) rfl rfl ff_X12_249 dX12_check_74 rfl (sh_711 hOK) rfl (fun _ => ⟨rfl, rfl⟩) ?_
      have hOK1 : gOK sh (gU M 711 18 0) := gOK_o hOK (sh_711 hOK) (f := 18) rfl rfl
      refine g_iload_n (q0 := 78) (j := 2) rfl dX12_check_77 rfl ?_
      rw [← Option.some.inj h]
      refine g_ireturn dX12_check_78 rfl ⟨Nat.zero_le _, Nat.zero_le _⟩ ?_
      exact ⟨rfl, rfl, rfl⟩
    · replace h := gI_neg (Int.not_lt.mpr h28) h
      refine g_aload_n (q0 := 32) (j := 0) rfl dX12_check_31 rfl ?_
      refine g_getp (q0 := 35) (b := 726) rfl ff_X12_53 dX12_check_32 rfl hOK (by decide) (sh_711 hOK) rfl (by decide) ?_
      refine g_iload_n (q0 := 36) (j := 3) rfl dX12_check_35 rfl ?_
      obtain ⟨g2, h⟩ := gI_gd h
      refine g_bald (q0 := 37) rfl dX12_check_36 (sh_726 hOK) g2.1 g2.2 ?_
      refine g_sipush (q0 := 40) rfl dX12_check_37 (k := ?_)
      refine g_iand (q0 := 41) rfl dX12_check_40 ?_
      refine g_iload_n (q0 := 42) (j := 3) rfl dX12_check_41 rfl ?_
      refine g_aload_n (q0 := 43) (j := 0) rfl dX12_check_42 rfl ?_
      refine g_getf (q0 := 46) (t := 0) (fi := 0) rfl rfl ff_X12_178 dX12_check_43 rfl (sh_711 hOK) ?_
      refine g_icmp_ge (q0 := 49) (tgt := 58) rfl dX12_check_46 (by decide) (fun h46 => ?_) (fun h46 => ?_)
      · replace h := gI_neg (Int.not_lt.mpr h46) h
        refine g_sipush (q0 := 61) rfl dX12_check_58 (k := ?_)
        refine g_icmp_eq (q0 := 64) (tgt := 66) rfl dX12_check_61 (by decide) (fun h61 => ?_) (fun h61 => ?_)
        · replace h := gI_pos h61 h
          refine g_iincw (q0 := 69) (lv2 := [_, _, _, _]) rfl dX12_check_66 rfl (by decide) rfl rfl ?_
          refine g_goto (tgt := 27) dX12_check_69 (by decide) ?_
          exact (hk _ _ h) _ _ _ _ rfl hOK
        · replace h := gI_neg h61 h
          refine g_iload_n (q0 := 65) (j := 3) rfl dX12_check_64 rfl ?_
          refine g_istore_n (q0 := 66) (j := 2) (lv2 := [_, _, _, _]) rfl dX12_check_65 (by decide) rfl rfl ?_
          refine g_iincw (q0 := 69) (lv2 := [_, _, _, _]) rfl dX12_check_66 rfl (by decide) rfl rfl ?_
          refine g_goto (tgt := 27) dX12_check_69 (by decide) ?_
          exact (hk _ _ h) _ _ _ _ rfl hOK
      · replace h := gI_pos h46 h
        refine g_aload_n (q0 := 50) (j := 0) rfl dX12_check_49 rfl ?_
        refine g_getp (q0 := 53) (b := 718) rfl ff_X12_28 dX12_check_50 rfl hOK (by decide) (sh_711 hOK) rfl (by decide) ?_
        refine g_iload_n (q0 := 54) (j := 3) rfl dX12_check_53 rfl ?_
        obtain ⟨g3, h⟩ := gI_gd h
        refine g_iald (q0 := 55) rfl dX12_check_54 (sh_718 hOK) g3.1 g3.2 ?_
        refine g_goto (tgt := 61) dX12_check_55 (by decide) ?_
        refine g_icmp_eq (q0 := 64) (tgt := 66) rfl dX12_check_61 (by decide) (fun h61 => ?_) (fun h61 => ?_)
        · replace h := gI_pos h61 h
          refine g_iincw (q0 := 69) (lv2 := [_, _, _, _]) rfl dX12_check_66 rfl (by decide) rfl rfl ?_
          refine g_goto (tgt := 27) dX12_check_69 (by decide) ?_
          exact (hk _ _ h) _ _ _ _ rfl hOK
        · replace h := gI_neg h61 h
          refine g_iload_n (q0 := 65) (j := 3) rfl dX12_check_64 rfl ?_
          refine g_istore_n (q0 := 66) (j := 2) (lv2 := [_, _, _, _]) rfl dX12_check_65 (by decide) rfl rfl ?_
          refine g_iincw (q0 := 69) (lv2 := [_, _, _, _]) rfl dX12_check_66 rfl (by decide) rfl rfl ?_
          refine g_goto (tgt := 27) dX12_check_69 (by decide) ?_
          exact (hk _ _ h) _ _ _ _ rfl hOK
theorem ok_check_27 {sh : gS} {M : gM} {x1 x2 x3 : Int} {b : Int × gM} (hOK : gOK sh M) (h : F_check_27 M x1 x2 x3 = some b) : gA (gr 1 22) yX12_check cX12_check 4 (some (.int)) (gPq sh (some (0, b.1)) b.2) (0, 0) 27 [(4, 711), (0, x1), (0, x2), (0, x3)] [] sh M :=
  (okp_check _ _ h) _ _ _ _ rfl hOK
theorem ok_check {sh : gS} {M : gM} {a1 : Int} {b : Int × gM} (hOK : gOK sh M) (h : F_check M a1 = some b) : gC (gr 1 22) yX12_check cX12_check 4 (some (.int)) [(4, 711), (0, a1)] sh M (gPq sh (some (0, b.1)) b.2) := by
  rw [eq_check] at h
  refine gC_ofA (lv := [_, _, _, _]) (by decide +kernel) (Nat.le_of_ble_eq_true rfl) rfl (fun hMw hav => ?_)
  refine g_iload_n (q0 := 1) (j := 1) rfl dX12_check_0 rfl ?_
  refine g_iconst (q0 := 2) rfl dX12_check_1 (k := ?_)
  refine g_bipush (q0 := 4) rfl dX12_check_2 (k := ?_)
  obtain ⟨r4, e4, h⟩ := gI_bd h
  refine g_callSq1 (as := [_, _, _]) (rest := []) mt_X12_in ms_X12_in ml_X12_182 dX12_check_4 (q0 := 7) rfl rfl (ok_in hOK e4) rfl ⟨by decide, by decide⟩ (Nat.le_of_ble_eq_true rfl) ⟨Nat.zero_le _, Nat.zero_le _⟩ ?_
  refine g_if_eq (q0 := 10) (tgt := 18) rfl dX12_check_7 (by decide) (fun h7 => ?_) (fun h7 => ?_)
  · replace h := gI_pos h7 h
    refine g_bipush (q0 := 20) rfl dX12_check_18 (k := ?_)
    rw [← Option.some.inj h]
    refine g_ireturn dX12_check_20 rfl ⟨Nat.zero_le _, Nat.zero_le _⟩ ?_
    exact ⟨rfl, rfl, rfl⟩
  · replace h := gI_neg h7 h
    refine g_iload_n (q0 := 11) (j := 1) rfl dX12_check_10 rfl ?_
    refine g_aload_n (q0 := 12) (j := 0) rfl dX12_check_11 rfl ?_
    refine g_getf (q0 := 15) (t := 0) (fi := 18) rfl rfl ff_X12_249 dX12_check_12 rfl (sh_711 hOK) ?_
    refine g_icmp_le (q0 := 18) (tgt := 21) rfl dX12_check_15 (by decide) (fun h15 => ?_) (fun h15 => ?_)
    · replace h := gI_neg (Int.not_lt.mpr h15) h
      refine g_iconst (q0 := 22) rfl dX12_check_21 (k := ?_)
      refine g_istore_n (q0 := 23) (j := 2) (lv2 := [_, _, _, _]) rfl dX12_check_22 (by decide) rfl rfl ?_
      refine g_iload_n (q0 := 24) (j := 1) rfl dX12_check_23 rfl ?_
      refine g_iconst (q0 := 25) rfl dX12_check_24 (k := ?_)
      refine g_isubw (q0 := 26) rfl dX12_check_25 ?_
      refine g_istore_n (q0 := 27) (j := 3) (lv2 := [_, _, _, _]) rfl dX12_check_26 (by decide) rfl rfl ?_
      exact ok_check_27 hOK h
    · replace h := gI_pos h15 h
      refine g_bipush (q0 := 20) rfl dX12_check_18 (k := ?_)
      rw [← Option.some.inj h]
      refine g_ireturn dX12_check_20 rfl ⟨Nat.zero_le _, Nat.zero_le _⟩ ?_
      exact ⟨rfl, rfl, rfl⟩
-- ==== trees
theorem dX12_trees_0 : decode cX12_trees 0 = .ok (.iconst 0, 1) := by decide +kernel
theorem dX12_trees_1 : decode cX12_trees 1 = .ok (.istore_n 1, 1) := by decide +kernel
theorem dX12_trees_2 : decode cX12_trees 2 = .ok (.iconst 0, 1) := by decide +kernel
theorem dX12_trees_3 : decode cX12_trees 3 = .ok (.istore_n 2, 1) := by decide +kernel
theorem dX12_trees_4 : decode cX12_trees 4 = .ok (.iload_n 2, 1) := by decide +kernel
theorem dX12_trees_5 : decode cX12_trees 5 = .ok (.aload_n 0, 1) := by decide +kernel
theorem dX12_trees_6 : decode cX12_trees 6 = .ok (.getfield 178, 3) := by decide +kernel
theorem dX12_trees_9 : decode cX12_trees 9 = .ok (.if_icmp .ge 54, 3) := by decide +kernel
theorem dX12_trees_12 : decode cX12_trees 12 = .ok (.iconst 1, 1) := by decide +kernel
theorem dX12_trees_13 : decode cX12_trees 13 = .ok (.istore_n 3, 1) := by decide +kernel
theorem dX12_trees_14 : decode cX12_trees 14 = .ok (.iconst 0, 1) := by decide +kernel
theorem dX12_trees_15 : decode cX12_trees 15 = .ok (.istore 4, 2) := by decide +kernel
theorem dX12_trees_17 : decode cX12_trees 17 = .ok (.iload 4, 2) := by decide +kernel
theorem dX12_trees_19 : decode cX12_trees 19 = .ok (.iload_n 2, 1) := by decide +kernel
theorem dX12_trees_20 : decode cX12_trees 20 = .ok (.if_icmp .ge 29, 3) := by decide +kernel
theorem dX12_trees_23 : decode cX12_trees 23 = .ok (.iload_n 3, 1) := by decide +kernel
theorem dX12_trees_24 : decode cX12_trees 24 = .ok (.ifCond .eq 25, 3) := by decide +kernel
theorem dX12_trees_27 : decode cX12_trees 27 = .ok (.aload_n 0, 1) := by decide +kernel
theorem dX12_trees_28 : decode cX12_trees 28 = .ok (.iload 4, 2) := by decide +kernel
theorem dX12_trees_30 : decode cX12_trees 30 = .ok (.iload_n 2, 1) := by decide +kernel
theorem dX12_trees_31 : decode cX12_trees 31 = .ok (.invokevirtual 195, 3) := by decide +kernel
theorem dX12_trees_34 : decode cX12_trees 34 = .ok (.ifCond .ne 7, 3) := by decide +kernel
theorem dX12_trees_37 : decode cX12_trees 37 = .ok (.iconst 1, 1) := by decide +kernel
theorem dX12_trees_38 : decode cX12_trees 38 = .ok (.goto 4, 3) := by decide +kernel
theorem dX12_trees_41 : decode cX12_trees 41 = .ok (.iconst 0, 1) := by decide +kernel
theorem dX12_trees_42 : decode cX12_trees 42 = .ok (.istore_n 3, 1) := by decide +kernel
theorem dX12_trees_43 : decode cX12_trees 43 = .ok (.iinc 4 1, 3) := by decide +kernel
theorem dX12_trees_46 : decode cX12_trees 46 = .ok (.goto (-29), 3) := by decide +kernel
theorem dX12_trees_49 : decode cX12_trees 49 = .ok (.iload_n 3, 1) := by decide +kernel
theorem dX12_trees_50 : decode cX12_trees 50 = .ok (.ifCond .eq 7, 3) := by decide +kernel
theorem dX12_trees_53 : decode cX12_trees 53 = .ok (.iload_n 1, 1) := by decide +kernel
theorem dX12_trees_54 : decode cX12_trees 54 = .ok (.iconst 1, 1) := by decide +kernel
theorem dX12_trees_55 : decode cX12_trees 55 = .ok (.iadd, 1) := by decide +kernel
theorem dX12_trees_56 : decode cX12_trees 56 = .ok (.istore_n 1, 1) := by decide +kernel
theorem dX12_trees_57 : decode cX12_trees 57 = .ok (.iinc 2 1, 3) := by decide +kernel
theorem dX12_trees_60 : decode cX12_trees 60 = .ok (.goto (-56), 3) := by decide +kernel
theorem dX12_trees_63 : decode cX12_trees 63 = .ok (.iload_n 1, 1) := by decide +kernel
theorem dX12_trees_64 : decode cX12_trees 64 = .ok (.ireturn, 1) := by decide +kernel
noncomputable def st_trees (M : gM) : Nat × List Int → Option ((Nat × List Int) ⊕ (Int))
  | (0, [x1, x2]) => (if x2 < (M 711 0) then
      some (.inl (1, [x1, x2, 1, 0]))
    else
      some (.inr x1))
  | (1, [x1, x2, x3, x4]) => (if x4 < x2 then
      (if x3 = 0 then
        (if x3 = 0 then
          some (.inl (0, [x1, (gw32 (x2 + 1))]))
        else
          some (.inl (0, [(gw32 (x1 + (1 : Int))), (gw32 (x2 + 1))])))
      else
        (Option.bind (F_areLike M x4 x2) (fun r31 =>
          (if r31 = 0 then
            some (.inl (1, [x1, x2, 1, (gw32 (x4 + 1))]))
          else
            some (.inl (1, [x1, x2, 0, (gw32 (x4 + 1))]))))))
    else
      (if x3 = 0 then
        some (.inl (0, [x1, (gw32 (x2 + 1))]))
      else
        some (.inl (0, [(gw32 (x1 + (1 : Int))), (gw32 (x2 + 1))]))))
  | _ => none
theorem sk_trees_4 (k : Nat × List Int → Option (Int)) (M : gM) (x1 x2 : Int) : gWk k (st_trees M (0, [x1, x2])) = (if x2 < (M 711 0) then
    k (1, [x1, x2, 1, 0])
  else
    some x1) := by
  simp only [st_trees, gWk_ite, gWk_bind, gWk_inl, gWk_inr, gWk_none]
theorem sk_trees_17 (k : Nat × List Int → Option (Int)) (M : gM) (x1 x2 x3 x4 : Int) : gWk k (st_trees M (1, [x1, x2, x3, x4])) = (if x4 < x2 then
    (if x3 = 0 then
      (if x3 = 0 then
        k (0, [x1, (gw32 (x2 + 1))])
      else
        k (0, [(gw32 (x1 + (1 : Int))), (gw32 (x2 + 1))]))
    else
      (Option.bind (F_areLike M x4 x2) (fun r31 =>
        (if r31 = 0 then
          k (1, [x1, x2, 1, (gw32 (x4 + 1))])
        else
          k (1, [x1, x2, 0, (gw32 (x4 + 1))])))))
  else
    (if x3 = 0 then
      k (0, [x1, (gw32 (x2 + 1))])
    else
      k (0, [(gw32 (x1 + (1 : Int))), (gw32 (x2 + 1))]))) := by
  simp only [st_trees, gWk_ite, gWk_bind, gWk_inl, gWk_inr, gWk_none]
noncomputable def F_trees_4 (M : gM) (x1 x2 : Int) : Option (Int) := gWh (st_trees M) (0, [x1, x2])
noncomputable def F_trees_17 (M : gM) (x1 x2 x3 x4 : Int) : Option (Int) := gWh (st_trees M) (1, [x1, x2, x3, x4])
theorem eq_trees_4 (M : gM) (x1 x2 : Int) : F_trees_4 M x1 x2 = (if x2 < (M 711 0) then
    F_trees_17 M x1 x2 1 0
  else
    some x1) := (gWh_eq _).trans (sk_trees_4 _ M x1 x2)
theorem eq_trees_17 (M : gM) (x1 x2 x3 x4 : Int) : F_trees_17 M x1 x2 x3 x4 = (if x4 < x2 then
    (if x3 = 0 then
      (if x3 = 0 then
        F_trees_4 M x1 (gw32 (x2 + 1))
      else
        F_trees_4 M (gw32 (x1 + (1 : Int))) (gw32 (x2 + 1)))
    else
      (Option.bind (F_areLike M x4 x2) (fun r31 =>
        (if r31 = 0 then
          F_trees_17 M x1 x2 1 (gw32 (x4 + 1))
        else
          F_trees_17 M x1 x2 0 (gw32 (x4 + 1))))))
  else
    (if x3 = 0 then
      F_trees_4 M x1 (gw32 (x2 + 1))
    else
      F_trees_4 M (gw32 (x1 + (1 : Int))) (gw32 (x2 + 1)))) := (gWh_eq _).trans (sk_trees_17 _ M x1 x2 x3 x4)
noncomputable def F_trees (M : gM) : Option (Int) := F_trees_4 M 0 0
theorem eq_trees (M : gM) : F_trees M = F_trees_4 M 0 0 := rfl
theorem okp_trees {sh : gS} {M : gM} : ∀ (s : Nat × List Int) (b : Int), gWh (st_trees M) s = some b → (∀ (x1 x2 : Int), s = (0, [x1, x2]) → gOK sh M → gA (gr 3 65) yX12_trees cX12_trees 5 (some (.int)) (gPq sh (some (0, b)) M) (0, 0) 4 [(4, 711), (0, x1), (0, x2), (9, 0), (9, 0)] [] sh M) ∧ (∀ (x1 x2 x3 x4 : Int), s = (1, [x1, x2, x3, x4]) → gOK sh M → gA (gr 3 65) yX12_trees cX12_trees 5 (some (.int)) (gPq sh (some (0, b)) M) (0, 0) 17 [(4, 711), (0, x1), (0, x2), (0, x3), (0, x4)] [] sh M) := by
  refine gWh_ind (fun k hk s b h => ⟨?_, ?_⟩)
  · rintro x1 x2 rfl hOK
    rw [sk_trees_4] at h
    refine g_iload_n (q0 := 5) (j := 2) rfl dX12_trees_4 rfl ?_
    refine g_aload_n (q0 := 6) (j := 0) rfl dX12_trees_5 rfl ?_
    refine g_getf (q0 := 9) (t := 0) (fi := 0) rfl rfl ff_X12_178 dX12_trees_6 rfl (sh_711 hOK) ?_
    refine g_icmp_ge (q0 := 12) (tgt := 63) rfl dX12_trees_9 (by decide) (fun h9 => ?_) (fun h9 => ?_)
    · replace h := gI_neg (Int.not_lt.mpr h9) h
      refine g_iload_n (q0 := 64) (j := 1) rfl dX12_trees_63 rfl ?_
      rw [← Option.some.inj h]
      refine g_ireturn dX12_trees_64 rfl ⟨Nat.zero_le _, Nat.zero_le _⟩ ?_
      exact ⟨rfl, rfl, rfl⟩
    · replace h := gI_pos h9 h
      refine g_iconst (q0 := 13) rfl dX12_trees_12 (k := ?_)
      refine g_istore_n (q0 := 14) (j := 3) (lv2 := [_, _, _, _, _]) rfl dX12_trees_13 (by decide) rfl rfl ?_
      refine g_iconst (q0 := 15) rfl dX12_trees_14 (k := ?_)
      refine g_istore (q0 := 17) (j := 4) (lv2 := [_, _, _, _, _]) rfl dX12_trees_15 (by decide) rfl rfl ?_
      exact (hk _ _ h).2 _ _ _ _ rfl hOK
  · rintro x1 x2 x3 x4 rfl hOK
    rw [sk_trees_17] at h
    refine g_iload (q0 := 19) (j := 4) rfl dX12_trees_17 rfl ?_
    refine g_iload_n (q0 := 20) (j := 2) rfl dX12_trees_19 rfl ?_
    refine g_icmp_ge (q0 := 23) (tgt := 49) rfl dX12_trees_20 (by decide) (fun h20 => ?_) (fun h20 => ?_)
    · replace h := gI_neg (Int.not_lt.mpr h20) h
      refine g_iload_n (q0 := 50) (j := 3) rfl dX12_trees_49 rfl ?_
      refine g_if_eq (q0 := 53) (tgt := 57) rfl dX12_trees_50 (by decide) (fun h50 => ?_) (fun h50 => ?_)
      · replace h := gI_pos h50 h
        refine g_iincw (q0 := 60) (lv2 := [_, _, _, _, _]) rfl dX12_trees_57 rfl (by decide) rfl rfl ?_
        refine g_goto (tgt := 4) dX12_trees_60 (by decide) ?_
        refine gA_jk (lv1 := [_, _, _, (9, 0), (9, 0)]) ⟨.inl rfl, .inl rfl, .inl rfl, .inr rfl, .inr rfl, trivial⟩ ?_
        exact (hk _ _ h).1 _ _ rfl hOK
      · replace h := gI_neg h50 h
        refine g_iload_n (q0 := 54) (j := 1) rfl dX12_trees_53 rfl ?_
        refine g_iconst (q0 := 55) rfl dX12_trees_54 (k := ?_)
        refine g_iaddw (q0 := 56) rfl dX12_trees_55 ?_
        refine g_istore_n (q0 := 57) (j := 1) (lv2 := [_, _, _, _, _]) rfl dX12_trees_56 (by decide) rfl rfl ?_
        refine g_iincw (q0 := 60) (lv2 := [_, _, _, _, _]) rfl dX12_trees_57 rfl (by decide) rfl rfl ?_
        refine g_goto (tgt := 4) dX12_trees_60 (by decide) ?_
        refine gA_jk (lv1 := [_, _, _, (9, 0), (9, 0)]) ⟨.inl rfl, .inl rfl, .inl rfl, .inr rfl, .inr rfl, trivial⟩ ?_
        exact (hk _ _ h).1 _ _ rfl hOK
    · replace h := gI_pos h20 h
      refine g_iload_n (q0 := 24) (j := 3) rfl dX12_trees_23 rfl ?_
      refine g_if_eq (q0 := 27) (tgt := 49) rfl dX12_trees_24 (by decide) (fun h24 => ?_) (fun h24 => ?_)
      · replace h := gI_pos h24 h
        refine g_iload_n (q0 := 50) (j := 3) rfl dX12_trees_49 rfl ?_
        refine g_if_eq (q0 := 53) (tgt := 57) rfl dX12_trees_50 (by decide) (fun h50 => ?_) (fun h50 => ?_)
        · replace h := gI_pos h50 h
          refine g_iincw (q0 := 60) (lv2 := [_, _, _, _, _]) rfl dX12_trees_57 rfl (by decide) rfl rfl ?_
          refine g_goto (tgt := 4) dX12_trees_60 (by decide) ?_
          refine gA_jk (lv1 := [_, _, _, (9, 0), (9, 0)]) ⟨.inl rfl, .inl rfl, .inl rfl, .inr rfl, .inr rfl, trivial⟩ ?_
          exact (hk _ _ h).1 _ _ rfl hOK
        · replace h := gI_neg h50 h
          refine g_iload_n (q0 := 54) (j := 1) rfl dX12_trees_53 rfl ?_
          refine g_iconst (q0 := 55) rfl dX12_trees_54 (k := ?_)
          refine g_iaddw (q0 := 56) rfl dX12_trees_55 ?_
          refine g_istore_n (q0 := 57) (j := 1) (lv2 := [_, _, _, _, _]) rfl dX12_trees_56 (by decide) rfl rfl ?_
          refine g_iincw (q0 := 60) (lv2 := [_, _, _, _, _]) rfl dX12_trees_57 rfl (by decide) rfl rfl ?_
          refine g_goto (tgt := 4) dX12_trees_60 (by decide) ?_
          refine gA_jk (lv1 := [_, _, _, (9, 0), (9, 0)]) ⟨.inl rfl, .inl rfl, .inl rfl, .inr rfl, .inr rfl, trivial⟩ ?_
          exact (hk _ _ h).1 _ _ rfl hOK
      · replace h := gI_neg h24 h
        refine g_aload_n (q0 := 28) (j := 0) rfl dX12_trees_27 rfl ?_
        refine g_iload (q0 := 30) (j := 4) rfl dX12_trees_28 rfl ?_
        refine g_iload_n (q0 := 31) (j := 2) rfl dX12_trees_30 rfl ?_
        obtain ⟨r31, e31, h⟩ := gI_bd h
        refine g_callVq1 (as := [_, _]) (rest := []) mt_X12_areLike mi_X12_areLike se_X12_areLike ml_X12_195 dX12_trees_31 (q0 := 34) rfl rfl (sh_711 hOK) rfl rfl (ok_areLike hOK e31) rfl ⟨by decide, by decide⟩ (Nat.le_of_ble_eq_true rfl) ⟨Nat.zero_le _, Nat.zero_le _⟩ ?_
        refine g_if_ne (q0 := 37) (tgt := 41) rfl dX12_trees_34 (by decide) (fun h34 => ?_) (fun h34 => ?_)
        · replace h := gI_neg h34 h
          refine g_iconst (q0 := 42) rfl dX12_trees_41 (k := ?_)
          refine g_istore_n (q0 := 43) (j := 3) (lv2 := [_, _, _, _, _]) rfl dX12_trees_42 (by decide) rfl rfl ?_
          refine g_iincw (q0 := 46) (lv2 := [_, _, _, _, _]) rfl dX12_trees_43 rfl (by decide) rfl rfl ?_
          refine g_goto (tgt := 17) dX12_trees_46 (by decide) ?_
          exact (hk _ _ h).2 _ _ _ _ rfl hOK
        · replace h := gI_pos h34 h
          refine g_iconst (q0 := 38) rfl dX12_trees_37 (k := ?_)
          refine g_goto (tgt := 42) dX12_trees_38 (by decide) ?_
          refine g_istore_n (q0 := 43) (j := 3) (lv2 := [_, _, _, _, _]) rfl dX12_trees_42 (by decide) rfl rfl ?_
          refine g_iincw (q0 := 46) (lv2 := [_, _, _, _, _]) rfl dX12_trees_43 rfl (by decide) rfl rfl ?_
          refine g_goto (tgt := 17) dX12_trees_46 (by decide) ?_
          exact (hk _ _ h).2 _ _ _ _ rfl hOK
theorem ok_trees_4 {sh : gS} {M : gM} {x1 x2 : Int} {b : Int} (hOK : gOK sh M) (h : F_trees_4 M x1 x2 = some b) : gA (gr 3 65) yX12_trees cX12_trees 5 (some (.int)) (gPq sh (some (0, b)) M) (0, 0) 4 [(4, 711), (0, x1), (0, x2), (9, 0), (9, 0)] [] sh M :=
  (okp_trees _ _ h).1 _ _ rfl hOK
theorem ok_trees_17 {sh : gS} {M : gM} {x1 x2 x3 x4 : Int} {b : Int} (hOK : gOK sh M) (h : F_trees_17 M x1 x2 x3 x4 = some b) : gA (gr 3 65) yX12_trees cX12_trees 5 (some (.int)) (gPq sh (some (0, b)) M) (0, 0) 17 [(4, 711), (0, x1), (0, x2), (0, x3), (0, x4)] [] sh M :=
  (okp_trees _ _ h).2 _ _ _ _ rfl hOK
theorem ok_trees {sh : gS} {M : gM} {b : Int} (hOK : gOK sh M) (h : F_trees M = some b) : gC (gr 3 65) yX12_trees cX12_trees 5 (some (.int)) [(4, 711)] sh M (gPq sh (some (0, b)) M) := by
  rw [eq_trees] at h
  refine gC_ofA (lv := [_, _, _, _, _]) (by decide +kernel) (Nat.le_of_ble_eq_true rfl) rfl (fun hMw hav => ?_)
  refine g_iconst (q0 := 1) rfl dX12_trees_0 (k := ?_)
  refine g_istore_n (q0 := 2) (j := 1) (lv2 := [_, _, _, _, _]) rfl dX12_trees_1 (by decide) rfl rfl ?_
  refine g_iconst (q0 := 3) rfl dX12_trees_2 (k := ?_)
  refine g_istore_n (q0 := 4) (j := 2) (lv2 := [_, _, _, _, _]) rfl dX12_trees_3 (by decide) rfl rfl ?_
  exact ok_trees_4 hOK h
-- ==== isFirstContent
theorem dX12_isFirstContent_0 : decode cX12_isFirstContent 0 = .ok (.aload_n 0, 1) := by decide +kernel
theorem dX12_isFirstContent_1 : decode cX12_isFirstContent 1 = .ok (.iload_n 1, 1) := by decide +kernel
theorem dX12_isFirstContent_2 : decode cX12_isFirstContent 2 = .ok (.iload_n 2, 1) := by decide +kernel
theorem dX12_isFirstContent_3 : decode cX12_isFirstContent 3 = .ok (.invokevirtual 169, 3) := by decide +kernel
theorem dX12_isFirstContent_6 : decode cX12_isFirstContent 6 = .ok (.istore_n 3, 1) := by decide +kernel
theorem dX12_isFirstContent_7 : decode cX12_isFirstContent 7 = .ok (.iconst 0, 1) := by decide +kernel
theorem dX12_isFirstContent_8 : decode cX12_isFirstContent 8 = .ok (.istore 4, 2) := by decide +kernel
theorem dX12_isFirstContent_10 : decode cX12_isFirstContent 10 = .ok (.iload 4, 2) := by decide +kernel
theorem dX12_isFirstContent_12 : decode cX12_isFirstContent 12 = .ok (.iload_n 1, 1) := by decide +kernel
theorem dX12_isFirstContent_13 : decode cX12_isFirstContent 13 = .ok (.if_icmp .gt 54, 3) := by decide +kernel
theorem dX12_isFirstContent_16 : decode cX12_isFirstContent 16 = .ok (.iconst 0, 1) := by decide +kernel
theorem dX12_isFirstContent_17 : decode cX12_isFirstContent 17 = .ok (.istore 5, 2) := by decide +kernel
theorem dX12_isFirstContent_19 : decode cX12_isFirstContent 19 = .ok (.iload 5, 2) := by decide +kernel
theorem dX12_isFirstContent_21 : decode cX12_isFirstContent 21 = .ok (.iload 4, 2) := by decide +kernel
theorem dX12_isFirstContent_23 : decode cX12_isFirstContent 23 = .ok (.iload_n 1, 1) := by decide +kernel
theorem dX12_isFirstContent_24 : decode cX12_isFirstContent 24 = .ok (.if_icmp .ge 13, 3) := by decide +kernel
theorem dX12_isFirstContent_27 : decode cX12_isFirstContent 27 = .ok (.aload_n 0, 1) := by decide +kernel
theorem dX12_isFirstContent_28 : decode cX12_isFirstContent 28 = .ok (.getfield 28, 3) := by decide +kernel
theorem dX12_isFirstContent_31 : decode cX12_isFirstContent 31 = .ok (.iload 4, 2) := by decide +kernel
theorem dX12_isFirstContent_33 : decode cX12_isFirstContent 33 = .ok (.iaload, 1) := by decide +kernel
theorem dX12_isFirstContent_34 : decode cX12_isFirstContent 34 = .ok (.goto 4, 3) := by decide +kernel
theorem dX12_isFirstContent_37 : decode cX12_isFirstContent 37 = .ok (.iload_n 2, 1) := by decide +kernel
theorem dX12_isFirstContent_38 : decode cX12_isFirstContent 38 = .ok (.if_icmp .ge 23, 3) := by decide +kernel
theorem dX12_isFirstContent_41 : decode cX12_isFirstContent 41 = .ok (.aload_n 0, 1) := by decide +kernel
theorem dX12_isFirstContent_42 : decode cX12_isFirstContent 42 = .ok (.iload 4, 2) := by decide +kernel
theorem dX12_isFirstContent_44 : decode cX12_isFirstContent 44 = .ok (.iload 5, 2) := by decide +kernel
theorem dX12_isFirstContent_46 : decode cX12_isFirstContent 46 = .ok (.invokevirtual 169, 3) := by decide +kernel
theorem dX12_isFirstContent_49 : decode cX12_isFirstContent 49 = .ok (.iload_n 3, 1) := by decide +kernel
theorem dX12_isFirstContent_50 : decode cX12_isFirstContent 50 = .ok (.if_icmp .ne 5, 3) := by decide +kernel
theorem dX12_isFirstContent_53 : decode cX12_isFirstContent 53 = .ok (.iconst 0, 1) := by decide +kernel
theorem dX12_isFirstContent_54 : decode cX12_isFirstContent 54 = .ok (.ireturn, 1) := by decide +kernel
theorem dX12_isFirstContent_55 : decode cX12_isFirstContent 55 = .ok (.iinc 5 1, 3) := by decide +kernel
theorem dX12_isFirstContent_58 : decode cX12_isFirstContent 58 = .ok (.goto (-39), 3) := by decide +kernel
theorem dX12_isFirstContent_61 : decode cX12_isFirstContent 61 = .ok (.iinc 4 1, 3) := by decide +kernel
theorem dX12_isFirstContent_64 : decode cX12_isFirstContent 64 = .ok (.goto (-54), 3) := by decide +kernel
theorem dX12_isFirstContent_67 : decode cX12_isFirstContent 67 = .ok (.iconst 1, 1) := by decide +kernel
theorem dX12_isFirstContent_68 : decode cX12_isFirstContent 68 = .ok (.ireturn, 1) := by decide +kernel
noncomputable def st_isFirstContent (M : gM) : Nat × List Int → Option ((Nat × List Int) ⊕ (Int))
  | (0, [x1, x2, x3, x4]) => (if x1 < x4 then
      some (.inr 1)
    else
      some (.inl (1, [x1, x2, x3, x4, 0])))
  | (1, [x1, x2, x3, x4, x5]) => (if x4 < x1 then
      (if 0 ≤ x4 ∧ x4 < 123 then
        (if x5 < (M 718 x4) then
          (Option.bind (F_contentAt M x4 x5) (fun r46 =>
            (if r46 = x3 then
              some (.inr 0)
            else
              some (.inl (1, [x1, x2, x3, x4, (gw32 (x5 + 1))])))))
        else
          some (.inl (0, [x1, x2, x3, (gw32 (x4 + 1))])))
      else none)
    else
      (if x5 < x2 then
        (Option.bind (F_contentAt M x4 x5) (fun r46 =>
          (if r46 = x3 then
            some (.inr 0)
          else
            some (.inl (1, [x1, x2, x3, x4, (gw32 (x5 + 1))])))))
      else
        some (.inl (0, [x1, x2, x3, (gw32 (x4 + 1))]))))
  | _ => none
theorem sk_isFirstContent_10 (k : Nat × List Int → Option (Int)) (M : gM) (x1 x2 x3 x4 : Int) : gWk k (st_isFirstContent M (0, [x1, x2, x3, x4])) = (if x1 < x4 then
    some 1
  else
    k (1, [x1, x2, x3, x4, 0])) := by
  simp only [st_isFirstContent, gWk_ite, gWk_bind, gWk_inl, gWk_inr, gWk_none]
theorem sk_isFirstContent_19 (k : Nat × List Int → Option (Int)) (M : gM) (x1 x2 x3 x4 x5 : Int) : gWk k (st_isFirstContent M (1, [x1, x2, x3, x4, x5])) = (if x4 < x1 then
    (if 0 ≤ x4 ∧ x4 < 123 then
      (if x5 < (M 718 x4) then
        (Option.bind (F_contentAt M x4 x5) (fun r46 =>
          (if r46 = x3 then
            some 0
          else
            k (1, [x1, x2, x3, x4, (gw32 (x5 + 1))]))))
      else
        k (0, [x1, x2, x3, (gw32 (x4 + 1))]))
    else none)
  else
    (if x5 < x2 then
      (Option.bind (F_contentAt M x4 x5) (fun r46 =>
        (if r46 = x3 then
          some 0
        else
          k (1, [x1, x2, x3, x4, (gw32 (x5 + 1))]))))
    else
      k (0, [x1, x2, x3, (gw32 (x4 + 1))]))) := by
  simp only [st_isFirstContent, gWk_ite, gWk_bind, gWk_inl, gWk_inr, gWk_none]
noncomputable def F_isFirstContent_10 (M : gM) (x1 x2 x3 x4 : Int) : Option (Int) := gWh (st_isFirstContent M) (0, [x1, x2, x3, x4])
noncomputable def F_isFirstContent_19 (M : gM) (x1 x2 x3 x4 x5 : Int) : Option (Int) := gWh (st_isFirstContent M) (1, [x1, x2, x3, x4, x5])
theorem eq_isFirstContent_10 (M : gM) (x1 x2 x3 x4 : Int) : F_isFirstContent_10 M x1 x2 x3 x4 = (if x1 < x4 then
    some 1
  else
    F_isFirstContent_19 M x1 x2 x3 x4 0) := (gWh_eq _).trans (sk_isFirstContent_10 _ M x1 x2 x3 x4)
theorem eq_isFirstContent_19 (M : gM) (x1 x2 x3 x4 x5 : Int) : F_isFirstContent_19 M x1 x2 x3 x4 x5 = (if x4 < x1 then
    (if 0 ≤ x4 ∧ x4 < 123 then
      (if x5 < (M 718 x4) then
        (Option.bind (F_contentAt M x4 x5) (fun r46 =>
          (if r46 = x3 then
            some 0
          else
            F_isFirstContent_19 M x1 x2 x3 x4 (gw32 (x5 + 1)))))
      else
        F_isFirstContent_10 M x1 x2 x3 (gw32 (x4 + 1)))
    else none)
  else
    (if x5 < x2 then
      (Option.bind (F_contentAt M x4 x5) (fun r46 =>
        (if r46 = x3 then
          some 0
        else
          F_isFirstContent_19 M x1 x2 x3 x4 (gw32 (x5 + 1)))))
    else
      F_isFirstContent_10 M x1 x2 x3 (gw32 (x4 + 1)))) := (gWh_eq _).trans (sk_isFirstContent_19 _ M x1 x2 x3 x4 x5)
noncomputable def F_isFirstContent (M : gM) (a1 a2 : Int) : Option (Int) := (Option.bind (F_contentAt M a1 a2) (fun r3 =>
    F_isFirstContent_10 M a1 a2 r3 0))
theorem eq_isFirstContent (M : gM) (a1 a2 : Int) : F_isFirstContent M a1 a2 = (Option.bind (F_contentAt M a1 a2) (fun r3 =>
    F_isFirstContent_10 M a1 a2 r3 0)) := rfl
theorem bop_isFirstContent {M : gM} : ∀ (s : Nat × List Int) (b : Int), gWh (st_isFirstContent M) s = some b → (∀ (x1 x2 x3 x4 : Int), s = (0, [x1, x2, x3, x4]) → b = 0 ∨ b = 1) ∧ (∀ (x1 x2 x3 x4 x5 : Int), s = (1, [x1, x2, x3, x4, x5]) → b = 0 ∨ b = 1) := by
  refine gWh_ind (fun k hk s b h => ⟨?_, ?_⟩)
  · rintro x1 x2 x3 x4 rfl
    rw [sk_isFirstContent_10] at h
    rcases gI_or h with h | h
    · rw [← Option.some.inj h]
      exact (Or.inr rfl)
    · exact (hk _ _ h).2 _ _ _ _ _ rfl
  · rintro x1 x2 x3 x4 x5 rfl
    rw [sk_isFirstContent_19] at h
    rcases gI_or h with h | h
    · obtain ⟨g1, h⟩ := gI_gd h
      rcases gI_or h with h | h
      · obtain ⟨r46, e46, h⟩ := gI_bd h
        rcases gI_or h with h | h
        · rw [← Option.some.inj h]
          exact (Or.inl rfl)
        · exact (hk _ _ h).2 _ _ _ _ _ rfl
      · exact (hk _ _ h).1 _ _ _ _ rfl
    · rcases gI_or h with h | h
      · obtain ⟨r46, e46, h⟩ := gI_bd h
        rcases gI_or h with h | h
        · rw [← Option.some.inj h]
          exact (Or.inl rfl)
        · exact (hk _ _ h).2 _ _ _ _ _ rfl
      · exact (hk _ _ h).1 _ _ _ _ rfl
theorem bo_isFirstContent_10 {M : gM} {x1 x2 x3 x4 : Int} {b : Int} (h : F_isFirstContent_10 M x1 x2 x3 x4 = some b) : b = 0 ∨ b = 1 :=
  (bop_isFirstContent _ _ h).1 _ _ _ _ rfl
theorem bo_isFirstContent_19 {M : gM} {x1 x2 x3 x4 x5 : Int} {b : Int} (h : F_isFirstContent_19 M x1 x2 x3 x4 x5 = some b) : b = 0 ∨ b = 1 :=
  (bop_isFirstContent _ _ h).2 _ _ _ _ _ rfl
theorem bo_isFirstContent {M : gM} {a1 a2 : Int} {b : Int} (h : F_isFirstContent M a1 a2 = some b) : b = 0 ∨ b = 1 := by
  rw [eq_isFirstContent] at h
  obtain ⟨r3, e3, h⟩ := gI_bd h
  exact bo_isFirstContent_10 h
theorem okp_isFirstContent {sh : gS} {M : gM} : ∀ (s : Nat × List Int) (b : Int), gWh (st_isFirstContent M) s = some b → (∀ (x1 x2 x3 x4 : Int), s = (0, [x1, x2, x3, x4]) → gOK sh M → gA (gr 2 42) yX12_isFirstContent cX12_isFirstContent 6 (some (.boolean)) (gPq sh (some (0, b)) M) (0, 0) 10 [(4, 711), (0, x1), (0, x2), (0, x3), (0, x4), (9, 0)] [] sh M) ∧ (∀ (x1 x2 x3 x4 x5 : Int), s = (1, [x1, x2, x3, x4, x5]) → gOK sh M → gA (gr 2 42) yX12_isFirstContent cX12_isFirstContent 6 (some (.boolean)) (gPq sh (some (0, b)) M) (0, 0) 19 [(4, 711), (0, x1), (0, x2), (0, x3), (0, x4), (0, x5)] [] sh M) := by
  refine gWh_ind (fun k hk s b h => ⟨?_, ?_⟩)
  · rintro x1 x2 x3 x4 rfl hOK
    rw [sk_isFirstContent_10] at h
    refine g_iload (q0 := 12) (j := 4) rfl dX12_isFirstContent_10 rfl ?_
    refine g_iload_n (q0 := 13) (j := 1) rfl dX12_isFirstContent_12 rfl ?_
    refine g_icmp_gt (q0 := 16) (tgt := 67) rfl dX12_isFirstContent_13 (by decide) (fun h13 => ?_) (fun h13 => ?_)
    · replace h := gI_pos h13 h
      refine g_iconst (q0 := 68) rfl dX12_isFirstContent_67 (k := ?_)
      rw [← Option.some.inj h]
      refine g_zreturn dX12_isFirstContent_68 rfl (gnz (Or.inr rfl)) ⟨Nat.zero_le _, Nat.zero_le _⟩ ?_
      exact ⟨rfl, rfl, rfl⟩
    · replace h := gI_neg (Int.not_lt.mpr h13) h
      refine g_iconst (q0 := 17) rfl dX12_isFirstContent_16 (k := ?_)
      refine g_istore (q0 := 19) (j := 5) (lv2 := [_, _, _, _, _, _]) rfl dX12_isFirstContent_17 (by decide) rfl rfl ?_
      exact (hk _ _ h).2 _ _ _ _ _ rfl hOK
  · rintro x1 x2 x3 x4 x5 rfl hOK
    rw [sk_isFirstContent_19] at h
    refine g_iload (q0 := 21) (j := 5) rfl dX12_isFirstContent_19 rfl ?_
    refine g_iload (q0 := 23) (j := 4) rfl dX12_isFirstContent_21 rfl ?_
    refine g_iload_n (q0 := 24) (j := 1) rfl dX12_isFirstContent_23 rfl ?_
    refine g_icmp_ge (q0 := 27) (tgt := 37) rfl dX12_isFirstContent_24 (by decide) (fun h24 => ?_) (fun h24 => ?_)
    · replace h := gI_neg (Int.not_lt.mpr h24) h
      refine g_iload_n (q0 := 38) (j := 2) rfl dX12_isFirstContent_37 rfl ?_
      refine g_icmp_ge (q0 := 41) (tgt := 61) rfl dX12_isFirstContent_38 (by decide) (fun h38 => ?_) (fun h38 => ?_)
      · replace h := gI_neg (Int.not_lt.mpr h38) h
        refine g_iincw (q0 := 64) (lv2 := [_, _, _, _, _, _]) rfl dX12_isFirstContent_61 rfl (by decide) rfl rfl ?_
        refine g_goto (tgt := 10) dX12_isFirstContent_64 (by decide) ?_
        refine gA_jk (lv1 := [_, _, _, _, _, (9, 0)]) ⟨.inl rfl, .inl rfl, .inl rfl, .inl rfl, .inl rfl, .inr rfl, trivial⟩ ?_
        exact (hk _ _ h).1 _ _ _ _ rfl hOK
      · replace h := gI_pos h38 h
        refine g_aload_n (q0 := 42) (j := 0) rfl dX12_isFirstContent_41 rfl ?_
        refine g_iload (q0 := 44) (j := 4) rfl dX12_isFirstContent_42 rfl ?_
        refine g_iload (q0 := 46) (j := 5) rfl dX12_isFirstContent_44 rfl ?_
        obtain ⟨r46, e46, h⟩ := gI_bd h
        refine g_callVq1 (as := [_, _]) (rest := []) mt_X12_contentAt mi_X12_contentAt se_X12_contentAt ml_X12_169 dX12_isFirstContent_46 (q0 := 49) rfl rfl (sh_711 hOK) rfl rfl (ok_contentAt hOK e46) rfl ⟨by decide, by decide⟩ (Nat.le_of_ble_eq_true rfl) ⟨Nat.zero_le _, Nat.zero_le _⟩ ?_
        refine g_iload_n (q0 := 50) (j := 3) rfl dX12_isFirstContent_49 rfl ?_
        refine g_icmp_ne (q0 := 53) (tgt := 55) rfl dX12_isFirstContent_50 (by decide) (fun h50 => ?_) (fun h50 => ?_)
        · replace h := gI_neg h50 h
          refine g_iincw (q0 := 58) (lv2 := [_, _, _, _, _, _]) rfl dX12_isFirstContent_55 rfl (by decide) rfl rfl ?_
          refine g_goto (tgt := 19) dX12_isFirstContent_58 (by decide) ?_
          exact (hk _ _ h).2 _ _ _ _ _ rfl hOK
        · replace h := gI_pos h50 h
          refine g_iconst (q0 := 54) rfl dX12_isFirstContent_53 (k := ?_)
          rw [← Option.some.inj h]
          refine g_zreturn dX12_isFirstContent_54 rfl (gnz (Or.inl rfl)) ⟨Nat.zero_le _, Nat.zero_le _⟩ ?_
          exact ⟨rfl, rfl, rfl⟩
    · replace h := gI_pos h24 h
      refine g_aload_n (q0 := 28) (j := 0) rfl dX12_isFirstContent_27 rfl ?_
      refine g_getp (q0 := 31) (b := 718) rfl ff_X12_28 dX12_isFirstContent_28 rfl hOK (by decide) (sh_711 hOK) rfl (by decide) ?_
      refine g_iload (q0 := 33) (j := 4) rfl dX12_isFirstContent_31 rfl ?_
      obtain ⟨g1, h⟩ := gI_gd h
      refine g_iald (q0 := 34) rfl dX12_isFirstContent_33 (sh_718 hOK) g1.1 g1.2 ?_
      refine g_goto (tgt := 38) dX12_isFirstContent_34 (by decide) ?_
      refine g_icmp_ge (q0 := 41) (tgt := 61) rfl dX12_isFirstContent_38 (by decide) (fun h38 => ?_) (fun h38 => ?_)
      · replace h := gI_neg (Int.not_lt.mpr h38) h
        refine g_iincw (q0 := 64) (lv2 := [_, _, _, _, _, _]) rfl dX12_isFirstContent_61 rfl (by decide) rfl rfl ?_
        refine g_goto (tgt := 10) dX12_isFirstContent_64 (by decide) ?_
        refine gA_jk (lv1 := [_, _, _, _, _, (9, 0)]) ⟨.inl rfl, .inl rfl, .inl rfl, .inl rfl, .inl rfl, .inr rfl, trivial⟩ ?_
        exact (hk _ _ h).1 _ _ _ _ rfl hOK
      · replace h := gI_pos h38 h
        refine g_aload_n (q0 := 42) (j := 0) rfl dX12_isFirstContent_41 rfl ?_
        refine g_iload (q0 := 44) (j := 4) rfl dX12_isFirstContent_42 rfl ?_
        refine g_iload (q0 := 46) (j := 5) rfl dX12_isFirstContent_44 rfl ?_
        obtain ⟨r46, e46, h⟩ := gI_bd h
        refine g_callVq1 (as := [_, _]) (rest := []) mt_X12_contentAt mi_X12_contentAt se_X12_contentAt ml_X12_169 dX12_isFirstContent_46 (q0 := 49) rfl rfl (sh_711 hOK) rfl rfl (ok_contentAt hOK e46) rfl ⟨by decide, by decide⟩ (Nat.le_of_ble_eq_true rfl) ⟨Nat.zero_le _, Nat.zero_le _⟩ ?_
        refine g_iload_n (q0 := 50) (j := 3) rfl dX12_isFirstContent_49 rfl ?_
        refine g_icmp_ne (q0 := 53) (tgt := 55) rfl dX12_isFirstContent_50 (by decide) (fun h50 => ?_) (fun h50 => ?_)
        · replace h := gI_neg h50 h
          refine g_iincw (q0 := 58) (lv2 := [_, _, _, _, _, _]) rfl dX12_isFirstContent_55 rfl (by decide) rfl rfl ?_
          refine g_goto (tgt := 19) dX12_isFirstContent_58 (by decide) ?_
          exact (hk _ _ h).2 _ _ _ _ _ rfl hOK
        · replace h := gI_pos h50 h
          refine g_iconst (q0 := 54) rfl dX12_isFirstContent_53 (k := ?_)
          rw [← Option.some.inj h]
          refine g_zreturn dX12_isFirstContent_54 rfl (gnz (Or.inl rfl)) ⟨Nat.zero_le _, Nat.zero_le _⟩ ?_
          exact ⟨rfl, rfl, rfl⟩
theorem ok_isFirstContent_10 {sh : gS} {M : gM} {x1 x2 x3 x4 : Int} {b : Int} (hOK : gOK sh M) (h : F_isFirstContent_10 M x1 x2 x3 x4 = some b) : gA (gr 2 42) yX12_isFirstContent cX12_isFirstContent 6 (some (.boolean)) (gPq sh (some (0, b)) M) (0, 0) 10 [(4, 711), (0, x1), (0, x2), (0, x3), (0, x4), (9, 0)] [] sh M :=
  (okp_isFirstContent _ _ h).1 _ _ _ _ rfl hOK
theorem ok_isFirstContent_19 {sh : gS} {M : gM} {x1 x2 x3 x4 x5 : Int} {b : Int} (hOK : gOK sh M) (h : F_isFirstContent_19 M x1 x2 x3 x4 x5 = some b) : gA (gr 2 42) yX12_isFirstContent cX12_isFirstContent 6 (some (.boolean)) (gPq sh (some (0, b)) M) (0, 0) 19 [(4, 711), (0, x1), (0, x2), (0, x3), (0, x4), (0, x5)] [] sh M :=
  (okp_isFirstContent _ _ h).2 _ _ _ _ _ rfl hOK
theorem ok_isFirstContent {sh : gS} {M : gM} {a1 a2 : Int} {b : Int} (hOK : gOK sh M) (h : F_isFirstContent M a1 a2 = some b) : gC (gr 2 42) yX12_isFirstContent cX12_isFirstContent 6 (some (.boolean)) [(4, 711), (0, a1), (0, a2)] sh M (gPq sh (some (0, b)) M) := by
  rw [eq_isFirstContent] at h
  refine gC_ofA (lv := [_, _, _, _, _, _]) (by decide +kernel) (Nat.le_of_ble_eq_true rfl) rfl (fun hMw hav => ?_)
  refine g_aload_n (q0 := 1) (j := 0) rfl dX12_isFirstContent_0 rfl ?_
  refine g_iload_n (q0 := 2) (j := 1) rfl dX12_isFirstContent_1 rfl ?_
  refine g_iload_n (q0 := 3) (j := 2) rfl dX12_isFirstContent_2 rfl ?_
  obtain ⟨r3, e3, h⟩ := gI_bd h
  refine g_callVq1 (as := [_, _]) (rest := []) mt_X12_contentAt mi_X12_contentAt se_X12_contentAt ml_X12_169 dX12_isFirstContent_3 (q0 := 6) rfl rfl (sh_711 hOK) rfl rfl (ok_contentAt hOK e3) rfl ⟨by decide, by decide⟩ (Nat.le_of_ble_eq_true rfl) ⟨Nat.zero_le _, Nat.zero_le _⟩ ?_
  refine g_istore_n (q0 := 7) (j := 3) (lv2 := [_, _, _, _, _, _]) rfl dX12_isFirstContent_6 (by decide) rfl rfl ?_
  refine g_iconst (q0 := 8) rfl dX12_isFirstContent_7 (k := ?_)
  refine g_istore (q0 := 10) (j := 4) (lv2 := [_, _, _, _, _, _]) rfl dX12_isFirstContent_8 (by decide) rfl rfl ?_
  exact ok_isFirstContent_10 hOK h
-- ==== contents
theorem dX12_contents_0 : decode cX12_contents 0 = .ok (.iconst 0, 1) := by decide +kernel
theorem dX12_contents_1 : decode cX12_contents 1 = .ok (.istore_n 1, 1) := by decide +kernel
theorem dX12_contents_2 : decode cX12_contents 2 = .ok (.iconst 0, 1) := by decide +kernel
theorem dX12_contents_3 : decode cX12_contents 3 = .ok (.istore_n 2, 1) := by decide +kernel
theorem dX12_contents_4 : decode cX12_contents 4 = .ok (.iload_n 2, 1) := by decide +kernel
theorem dX12_contents_5 : decode cX12_contents 5 = .ok (.aload_n 0, 1) := by decide +kernel
theorem dX12_contents_6 : decode cX12_contents 6 = .ok (.getfield 178, 3) := by decide +kernel
theorem dX12_contents_9 : decode cX12_contents 9 = .ok (.if_icmp .ge 40, 3) := by decide +kernel
theorem dX12_contents_12 : decode cX12_contents 12 = .ok (.iconst 0, 1) := by decide +kernel
theorem dX12_contents_13 : decode cX12_contents 13 = .ok (.istore_n 3, 1) := by decide +kernel
theorem dX12_contents_14 : decode cX12_contents 14 = .ok (.iload_n 3, 1) := by decide +kernel
theorem dX12_contents_15 : decode cX12_contents 15 = .ok (.aload_n 0, 1) := by decide +kernel
theorem dX12_contents_16 : decode cX12_contents 16 = .ok (.getfield 28, 3) := by decide +kernel
theorem dX12_contents_19 : decode cX12_contents 19 = .ok (.iload_n 2, 1) := by decide +kernel
theorem dX12_contents_20 : decode cX12_contents 20 = .ok (.iaload, 1) := by decide +kernel
theorem dX12_contents_21 : decode cX12_contents 21 = .ok (.if_icmp .ge 22, 3) := by decide +kernel
theorem dX12_contents_24 : decode cX12_contents 24 = .ok (.aload_n 0, 1) := by decide +kernel
theorem dX12_contents_25 : decode cX12_contents 25 = .ok (.iload_n 2, 1) := by decide +kernel
theorem dX12_contents_26 : decode cX12_contents 26 = .ok (.iload_n 3, 1) := by decide +kernel
theorem dX12_contents_27 : decode cX12_contents 27 = .ok (.invokevirtual 785, 3) := by decide +kernel
theorem dX12_contents_30 : decode cX12_contents 30 = .ok (.ifCond .eq 7, 3) := by decide +kernel
theorem dX12_contents_33 : decode cX12_contents 33 = .ok (.iload_n 1, 1) := by decide +kernel
theorem dX12_contents_34 : decode cX12_contents 34 = .ok (.iconst 1, 1) := by decide +kernel
theorem dX12_contents_35 : decode cX12_contents 35 = .ok (.iadd, 1) := by decide +kernel
theorem dX12_contents_36 : decode cX12_contents 36 = .ok (.istore_n 1, 1) := by decide +kernel
theorem dX12_contents_37 : decode cX12_contents 37 = .ok (.iinc 3 1, 3) := by decide +kernel
theorem dX12_contents_40 : decode cX12_contents 40 = .ok (.goto (-26), 3) := by decide +kernel
theorem dX12_contents_43 : decode cX12_contents 43 = .ok (.iinc 2 1, 3) := by decide +kernel
theorem dX12_contents_46 : decode cX12_contents 46 = .ok (.goto (-42), 3) := by decide +kernel
theorem dX12_contents_49 : decode cX12_contents 49 = .ok (.iload_n 1, 1) := by decide +kernel
theorem dX12_contents_50 : decode cX12_contents 50 = .ok (.ireturn, 1) := by decide +kernel
noncomputable def st_contents (M : gM) : Nat × List Int → Option ((Nat × List Int) ⊕ (Int))
  | (0, [x1, x2]) => (if x2 < (M 711 0) then
      some (.inl (1, [x1, x2, 0]))
    else
      some (.inr x1))
  | (1, [x1, x2, x3]) => (if 0 ≤ x2 ∧ x2 < 123 then
      (if x3 < (M 718 x2) then
        (Option.bind (F_isFirstContent M x2 x3) (fun r27 =>
          (if r27 = 0 then
            some (.inl (1, [x1, x2, (gw32 (x3 + 1))]))
          else
            some (.inl (1, [(gw32 (x1 + (1 : Int))), x2, (gw32 (x3 + 1))])))))
      else
        some (.inl (0, [x1, (gw32 (x2 + 1))])))
    else none)
  | _ => none
theorem sk_contents_4 (k : Nat × List Int → Option (Int)) (M : gM) (x1 x2 : Int) : gWk k (st_contents M (0, [x1, x2])) = (if x2 < (M 711 0) then
    k (1, [x1, x2, 0])
  else
    some x1) := by
  simp only [st_contents, gWk_ite, gWk_bind, gWk_inl, gWk_inr, gWk_none]
theorem sk_contents_14 (k : Nat × List Int → Option (Int)) (M : gM) (x1 x2 x3 : Int) : gWk k (st_contents M (1, [x1, x2, x3])) = (if 0 ≤ x2 ∧ x2 < 123 then
    (if x3 < (M 718 x2) then
      (Option.bind (F_isFirstContent M x2 x3) (fun r27 =>
        (if r27 = 0 then
          k (1, [x1, x2, (gw32 (x3 + 1))])
        else
          k (1, [(gw32 (x1 + (1 : Int))), x2, (gw32 (x3 + 1))]))))
    else
      k (0, [x1, (gw32 (x2 + 1))]))
  else none) := by
  simp only [st_contents, gWk_ite, gWk_bind, gWk_inl, gWk_inr, gWk_none]
noncomputable def F_contents_4 (M : gM) (x1 x2 : Int) : Option (Int) := gWh (st_contents M) (0, [x1, x2])
noncomputable def F_contents_14 (M : gM) (x1 x2 x3 : Int) : Option (Int) := gWh (st_contents M) (1, [x1, x2, x3])
theorem eq_contents_4 (M : gM) (x1 x2 : Int) : F_contents_4 M x1 x2 = (if x2 < (M 711 0) then
    F_contents_14 M x1 x2 0
  else
    some x1) := (gWh_eq _).trans (sk_contents_4 _ M x1 x2)
theorem eq_contents_14 (M : gM) (x1 x2 x3 : Int) : F_contents_14 M x1 x2 x3 = (if 0 ≤ x2 ∧ x2 < 123 then
    (if x3 < (M 718 x2) then
      (Option.bind (F_isFirstContent M x2 x3) (fun r27 =>
        (if r27 = 0 then
          F_contents_14 M x1 x2 (gw32 (x3 + 1))
        else
          F_contents_14 M (gw32 (x1 + (1 : Int))) x2 (gw32 (x3 + 1)))))
    else
      F_contents_4 M x1 (gw32 (x2 + 1)))
  else none) := (gWh_eq _).trans (sk_contents_14 _ M x1 x2 x3)
noncomputable def F_contents (M : gM) : Option (Int) := F_contents_4 M 0 0
theorem eq_contents (M : gM) : F_contents M = F_contents_4 M 0 0 := rfl
theorem okp_contents {sh : gS} {M : gM} : ∀ (s : Nat × List Int) (b : Int), gWh (st_contents M) s = some b → (∀ (x1 x2 : Int), s = (0, [x1, x2]) → gOK sh M → gA (gr 3 67) yX12_contents cX12_contents 4 (some (.int)) (gPq sh (some (0, b)) M) (0, 0) 4 [(4, 711), (0, x1), (0, x2), (9, 0)] [] sh M) ∧ (∀ (x1 x2 x3 : Int), s = (1, [x1, x2, x3]) → gOK sh M → gA (gr 3 67) yX12_contents cX12_contents 4 (some (.int)) (gPq sh (some (0, b)) M) (0, 0) 14 [(4, 711), (0, x1), (0, x2), (0, x3)] [] sh M) := by
  refine gWh_ind (fun k hk s b h => ⟨?_, ?_⟩)
  · rintro x1 x2 rfl hOK
    rw [sk_contents_4] at h
    refine g_iload_n (q0 := 5) (j := 2) rfl dX12_contents_4 rfl ?_
    refine g_aload_n (q0 := 6) (j := 0) rfl dX12_contents_5 rfl ?_
    refine g_getf (q0 := 9) (t := 0) (fi := 0) rfl rfl ff_X12_178 dX12_contents_6 rfl (sh_711 hOK) ?_
    refine g_icmp_ge (q0 := 12) (tgt := 49) rfl dX12_contents_9 (by decide) (fun h9 => ?_) (fun h9 => ?_)
    · replace h := gI_neg (Int.not_lt.mpr h9) h
      refine g_iload_n (q0 := 50) (j := 1) rfl dX12_contents_49 rfl ?_
      rw [← Option.some.inj h]
      refine g_ireturn dX12_contents_50 rfl ⟨Nat.zero_le _, Nat.zero_le _⟩ ?_
      exact ⟨rfl, rfl, rfl⟩
    · replace h := gI_pos h9 h
      refine g_iconst (q0 := 13) rfl dX12_contents_12 (k := ?_)
      refine g_istore_n (q0 := 14) (j := 3) (lv2 := [_, _, _, _]) rfl dX12_contents_13 (by decide) rfl rfl ?_
      exact (hk _ _ h).2 _ _ _ rfl hOK
  · rintro x1 x2 x3 rfl hOK
    rw [sk_contents_14] at h
    refine g_iload_n (q0 := 15) (j := 3) rfl dX12_contents_14 rfl ?_
    refine g_aload_n (q0 := 16) (j := 0) rfl dX12_contents_15 rfl ?_
    refine g_getp (q0 := 19) (b := 718) rfl ff_X12_28 dX12_contents_16 rfl hOK (by decide) (sh_711 hOK) rfl (by decide) ?_
    refine g_iload_n (q0 := 20) (j := 2) rfl dX12_contents_19 rfl ?_
    obtain ⟨g1, h⟩ := gI_gd h
    refine g_iald (q0 := 21) rfl dX12_contents_20 (sh_718 hOK) g1.1 g1.2 ?_
    refine g_icmp_ge (q0 := 24) (tgt := 43) rfl dX12_contents_21 (by decide) (fun h21 => ?_) (fun h21 => ?_)
    · replace h := gI_neg (Int.not_lt.mpr h21) h
      refine g_iincw (q0 := 46) (lv2 := [_, _, _, _]) rfl dX12_contents_43 rfl (by decide) rfl rfl ?_
      refine g_goto (tgt := 4) dX12_contents_46 (by decide) ?_
      refine gA_jk (lv1 := [_, _, _, (9, 0)]) ⟨.inl rfl, .inl rfl, .inl rfl, .inr rfl, trivial⟩ ?_
      exact (hk _ _ h).1 _ _ rfl hOK
    · replace h := gI_pos h21 h
      refine g_aload_n (q0 := 25) (j := 0) rfl dX12_contents_24 rfl ?_
      refine g_iload_n (q0 := 26) (j := 2) rfl dX12_contents_25 rfl ?_
      refine g_iload_n (q0 := 27) (j := 3) rfl dX12_contents_26 rfl ?_
      obtain ⟨r27, e27, h⟩ := gI_bd h
      refine g_callVq1 (as := [_, _]) (rest := []) mt_X12_isFirstContent mi_X12_isFirstContent se_X12_isFirstContent ml_X12_785 dX12_contents_27 (q0 := 30) rfl rfl (sh_711 hOK) rfl rfl (ok_isFirstContent hOK e27) rfl ⟨by decide, by decide⟩ (Nat.le_of_ble_eq_true rfl) ⟨Nat.zero_le _, Nat.zero_le _⟩ ?_
      refine g_if_eq (q0 := 33) (tgt := 37) rfl dX12_contents_30 (by decide) (fun h30 => ?_) (fun h30 => ?_)
      · replace h := gI_pos h30 h
        refine g_iincw (q0 := 40) (lv2 := [_, _, _, _]) rfl dX12_contents_37 rfl (by decide) rfl rfl ?_
        refine g_goto (tgt := 14) dX12_contents_40 (by decide) ?_
        exact (hk _ _ h).2 _ _ _ rfl hOK
      · replace h := gI_neg h30 h
        refine g_iload_n (q0 := 34) (j := 1) rfl dX12_contents_33 rfl ?_
        refine g_iconst (q0 := 35) rfl dX12_contents_34 (k := ?_)
        refine g_iaddw (q0 := 36) rfl dX12_contents_35 ?_
        refine g_istore_n (q0 := 37) (j := 1) (lv2 := [_, _, _, _]) rfl dX12_contents_36 (by decide) rfl rfl ?_
        refine g_iincw (q0 := 40) (lv2 := [_, _, _, _]) rfl dX12_contents_37 rfl (by decide) rfl rfl ?_
        refine g_goto (tgt := 14) dX12_contents_40 (by decide) ?_
        exact (hk _ _ h).2 _ _ _ rfl hOK
theorem ok_contents_4 {sh : gS} {M : gM} {x1 x2 : Int} {b : Int} (hOK : gOK sh M) (h : F_contents_4 M x1 x2 = some b) : gA (gr 3 67) yX12_contents cX12_contents 4 (some (.int)) (gPq sh (some (0, b)) M) (0, 0) 4 [(4, 711), (0, x1), (0, x2), (9, 0)] [] sh M :=
  (okp_contents _ _ h).1 _ _ rfl hOK
theorem ok_contents_14 {sh : gS} {M : gM} {x1 x2 x3 : Int} {b : Int} (hOK : gOK sh M) (h : F_contents_14 M x1 x2 x3 = some b) : gA (gr 3 67) yX12_contents cX12_contents 4 (some (.int)) (gPq sh (some (0, b)) M) (0, 0) 14 [(4, 711), (0, x1), (0, x2), (0, x3)] [] sh M :=
  (okp_contents _ _ h).2 _ _ _ rfl hOK
theorem ok_contents {sh : gS} {M : gM} {b : Int} (hOK : gOK sh M) (h : F_contents M = some b) : gC (gr 3 67) yX12_contents cX12_contents 4 (some (.int)) [(4, 711)] sh M (gPq sh (some (0, b)) M) := by
  rw [eq_contents] at h
  refine gC_ofA (lv := [_, _, _, _]) (by decide +kernel) (Nat.le_of_ble_eq_true rfl) rfl (fun hMw hav => ?_)
  refine g_iconst (q0 := 1) rfl dX12_contents_0 (k := ?_)
  refine g_istore_n (q0 := 2) (j := 1) (lv2 := [_, _, _, _]) rfl dX12_contents_1 (by decide) rfl rfl ?_
  refine g_iconst (q0 := 3) rfl dX12_contents_2 (k := ?_)
  refine g_istore_n (q0 := 4) (j := 2) (lv2 := [_, _, _, _]) rfl dX12_contents_3 (by decide) rfl rfl ?_
  exact ok_contents_4 hOK h
-- ==== count
theorem dX12_count_0 : decode cX12_count 0 = .ok (.iload_n 1, 1) := by decide +kernel
theorem dX12_count_1 : decode cX12_count 1 = .ok (.tableswitch 114 0 5 #[39, 44, 49, 54, 59, 90], 39) := by decide +kernel
theorem dX12_count_40 : decode cX12_count 40 = .ok (.aload_n 0, 1) := by decide +kernel
theorem dX12_count_41 : decode cX12_count 41 = .ok (.getfield 178, 3) := by decide +kernel
theorem dX12_count_44 : decode cX12_count 44 = .ok (.ireturn, 1) := by decide +kernel
theorem dX12_count_45 : decode cX12_count 45 = .ok (.aload_n 0, 1) := by decide +kernel
theorem dX12_count_46 : decode cX12_count 46 = .ok (.getfield 249, 3) := by decide +kernel
theorem dX12_count_49 : decode cX12_count 49 = .ok (.ireturn, 1) := by decide +kernel
theorem dX12_count_50 : decode cX12_count 50 = .ok (.aload_n 0, 1) := by decide +kernel
theorem dX12_count_51 : decode cX12_count 51 = .ok (.invokevirtual 788, 3) := by decide +kernel
theorem dX12_count_54 : decode cX12_count 54 = .ok (.ireturn, 1) := by decide +kernel
theorem dX12_count_55 : decode cX12_count 55 = .ok (.aload_n 0, 1) := by decide +kernel
theorem dX12_count_56 : decode cX12_count 56 = .ok (.invokevirtual 791, 3) := by decide +kernel
theorem dX12_count_59 : decode cX12_count 59 = .ok (.ireturn, 1) := by decide +kernel
theorem dX12_count_60 : decode cX12_count 60 = .ok (.iconst 0, 1) := by decide +kernel
theorem dX12_count_61 : decode cX12_count 61 = .ok (.istore_n 2, 1) := by decide +kernel
theorem dX12_count_62 : decode cX12_count 62 = .ok (.iconst 0, 1) := by decide +kernel
theorem dX12_count_63 : decode cX12_count 63 = .ok (.istore_n 3, 1) := by decide +kernel
theorem dX12_count_64 : decode cX12_count 64 = .ok (.iload_n 3, 1) := by decide +kernel
theorem dX12_count_65 : decode cX12_count 65 = .ok (.iconst 4, 1) := by decide +kernel
theorem dX12_count_66 : decode cX12_count 66 = .ok (.if_icmp .ge 23, 3) := by decide +kernel
theorem dX12_count_69 : decode cX12_count 69 = .ok (.iload_n 2, 1) := by decide +kernel
theorem dX12_count_70 : decode cX12_count 70 = .ok (.aload_n 0, 1) := by decide +kernel
theorem dX12_count_71 : decode cX12_count 71 = .ok (.getfield 63, 3) := by decide +kernel
theorem dX12_count_74 : decode cX12_count 74 = .ok (.bipush 68, 2) := by decide +kernel
theorem dX12_count_76 : decode cX12_count 76 = .ok (.iload_n 3, 1) := by decide +kernel
theorem dX12_count_77 : decode cX12_count 77 = .ok (.imul, 1) := by decide +kernel
theorem dX12_count_78 : decode cX12_count 78 = .ok (.iconst 0, 1) := by decide +kernel
theorem dX12_count_79 : decode cX12_count 79 = .ok (.iadd, 1) := by decide +kernel
theorem dX12_count_80 : decode cX12_count 80 = .ok (.iaload, 1) := by decide +kernel
theorem dX12_count_81 : decode cX12_count 81 = .ok (.iadd, 1) := by decide +kernel
theorem dX12_count_82 : decode cX12_count 82 = .ok (.istore_n 2, 1) := by decide +kernel
theorem dX12_count_83 : decode cX12_count 83 = .ok (.iinc 3 1, 3) := by decide +kernel
theorem dX12_count_86 : decode cX12_count 86 = .ok (.goto (-22), 3) := by decide +kernel
theorem dX12_count_89 : decode cX12_count 89 = .ok (.iload_n 2, 1) := by decide +kernel
theorem dX12_count_90 : decode cX12_count 90 = .ok (.ireturn, 1) := by decide +kernel
theorem dX12_count_91 : decode cX12_count 91 = .ok (.aload_n 0, 1) := by decide +kernel
theorem dX12_count_92 : decode cX12_count 92 = .ok (.iconst 0, 1) := by decide +kernel
theorem dX12_count_93 : decode cX12_count 93 = .ok (.invokevirtual 356, 3) := by decide +kernel
theorem dX12_count_96 : decode cX12_count 96 = .ok (.aload_n 0, 1) := by decide +kernel
theorem dX12_count_97 : decode cX12_count 97 = .ok (.iconst 1, 1) := by decide +kernel
theorem dX12_count_98 : decode cX12_count 98 = .ok (.invokevirtual 356, 3) := by decide +kernel
theorem dX12_count_101 : decode cX12_count 101 = .ok (.iadd, 1) := by decide +kernel
theorem dX12_count_102 : decode cX12_count 102 = .ok (.aload_n 0, 1) := by decide +kernel
theorem dX12_count_103 : decode cX12_count 103 = .ok (.iconst 2, 1) := by decide +kernel
theorem dX12_count_104 : decode cX12_count 104 = .ok (.invokevirtual 356, 3) := by decide +kernel
theorem dX12_count_107 : decode cX12_count 107 = .ok (.iadd, 1) := by decide +kernel
theorem dX12_count_108 : decode cX12_count 108 = .ok (.aload_n 0, 1) := by decide +kernel
theorem dX12_count_109 : decode cX12_count 109 = .ok (.iconst 3, 1) := by decide +kernel
theorem dX12_count_110 : decode cX12_count 110 = .ok (.invokevirtual 356, 3) := by decide +kernel
theorem dX12_count_113 : decode cX12_count 113 = .ok (.iadd, 1) := by decide +kernel
theorem dX12_count_114 : decode cX12_count 114 = .ok (.ireturn, 1) := by decide +kernel
theorem dX12_count_115 : decode cX12_count 115 = .ok (.iconst (-1), 1) := by decide +kernel
theorem dX12_count_116 : decode cX12_count 116 = .ok (.ireturn, 1) := by decide +kernel
noncomputable def st_count (M : gM) : Nat × List Int → Option ((Nat × List Int) ⊕ (Int))
  | (0, [x1, x2, x3]) => (if x3 < 4 then
      (if 0 ≤ (gw32 ((gw32 ((68 : Int) * x3)) + (0 : Int))) ∧ (gw32 ((gw32 ((68 : Int) * x3)) + (0 : Int))) < 340 then
        some (.inl (0, [x1, (gw32 (x2 + (M 729 (gw32 ((gw32 ((68 : Int) * x3)) + (0 : Int)))))), (gw32 (x3 + 1))]))
      else none)
    else
      some (.inr x2))
  | _ => none
theorem sk_count_64 (k : Nat × List Int → Option (Int)) (M : gM) (x1 x2 x3 : Int) : gWk k (st_count M (0, [x1, x2, x3])) = (if x3 < 4 then
    (if 0 ≤ (gw32 ((gw32 ((68 : Int) * x3)) + (0 : Int))) ∧ (gw32 ((gw32 ((68 : Int) * x3)) + (0 : Int))) < 340 then
      k (0, [x1, (gw32 (x2 + (M 729 (gw32 ((gw32 ((68 : Int) * x3)) + (0 : Int)))))), (gw32 (x3 + 1))])
    else none)
  else
    some x2) := by
  simp only [st_count, gWk_ite, gWk_bind, gWk_inl, gWk_inr, gWk_none]
noncomputable def F_count_64 (M : gM) (x1 x2 x3 : Int) : Option (Int) := gWh (st_count M) (0, [x1, x2, x3])
theorem eq_count_64 (M : gM) (x1 x2 x3 : Int) : F_count_64 M x1 x2 x3 = (if x3 < 4 then
    (if 0 ≤ (gw32 ((gw32 ((68 : Int) * x3)) + (0 : Int))) ∧ (gw32 ((gw32 ((68 : Int) * x3)) + (0 : Int))) < 340 then
      F_count_64 M x1 (gw32 (x2 + (M 729 (gw32 ((gw32 ((68 : Int) * x3)) + (0 : Int)))))) (gw32 (x3 + 1))
    else none)
  else
    some x2) := (gWh_eq _).trans (sk_count_64 _ M x1 x2 x3)
noncomputable def F_count (M : gM) (a1 : Int) : Option (Int) := (if a1 = 0 then
    some (M 711 0)
  else
    (if a1 = 1 then
      some (M 711 18)
    else
      (if a1 = 2 then
        (Option.bind (F_trees M) (fun r51 =>
          some r51))
      else
        (if a1 = 3 then
          (Option.bind (F_contents M) (fun r56 =>
            some r56))
        else
          (if a1 = 4 then
            F_count_64 M a1 0 0
          else
            (if a1 = 5 then
              (Option.bind (F_refs M 0) (fun r93 =>
                (Option.bind (F_refs M 1) (fun r98 =>
                  (Option.bind (F_refs M 2) (fun r104 =>
                    (Option.bind (F_refs M 3) (fun r110 =>
                      some (gw32 ((gw32 ((gw32 (r93 + r98)) + r104)) + r110))))))))))
            else
              some (-1)))))))
theorem eq_count (M : gM) (a1 : Int) : F_count M a1 = (if a1 = 0 then
    some (M 711 0)
  else
    (if a1 = 1 then
      some (M 711 18)
    else
      (if a1 = 2 then
        (Option.bind (F_trees M) (fun r51 =>
          some r51))
      else
        (if a1 = 3 then
          (Option.bind (F_contents M) (fun r56 =>
            some r56))
        else
          (if a1 = 4 then
            F_count_64 M a1 0 0
          else
            (if a1 = 5 then
              (Option.bind (F_refs M 0) (fun r93 =>
                (Option.bind (F_refs M 1) (fun r98 =>
                  (Option.bind (F_refs M 2) (fun r104 =>
                    (Option.bind (F_refs M 3) (fun r110 =>
                      some (gw32 ((gw32 ((gw32 (r93 + r98)) + r104)) + r110))))))))))
            else
              some (-1))))))) := rfl
theorem okp_count {sh : gS} {M : gM} : ∀ (s : Nat × List Int) (b : Int), gWh (st_count M) s = some b → (∀ (x1 x2 x3 : Int), s = (0, [x1, x2, x3]) → gOK sh M → gA (gr 4 90) yX12_count cX12_count 4 (some (.int)) (gPq sh (some (0, b)) M) (0, 0) 64 [(4, 711), (0, x1), (0, x2), (0, x3)] [] sh M) := by
  refine gWh_ind (fun k hk s b h => ?_)
  · rintro x1 x2 x3 rfl hOK
    rw [sk_count_64] at h
    refine g_iload_n (q0 := 65) (j := 3) rfl dX12_count_64 rfl ?_
    refine g_iconst (q0 := 66) rfl dX12_count_65 (k := ?_)
    refine g_icmp_ge (q0 := 69) (tgt := 89) rfl dX12_count_66 (by decide) (fun h66 => ?_) (fun h66 => ?_)
    · replace h := gI_neg (Int.not_lt.mpr h66) h
      refine g_iload_n (q0 := 90) (j := 2) rfl dX12_count_89 rfl ?_
      rw [← Option.some.inj h]
      refine g_ireturn dX12_count_90 rfl ⟨Nat.zero_le _, Nat.zero_le _⟩ ?_
      exact ⟨rfl, rfl, rfl⟩
    · replace h := gI_pos h66 h
      refine g_iload_n (q0 := 70) (j := 2) rfl dX12_count_69 rfl ?_
      refine g_aload_n (q0 := 71) (j := 0) rfl dX12_count_70 rfl ?_
      refine g_getp (q0 := 74) (b := 729) rfl ff_X12_63 dX12_count_71 rfl hOK (by decide) (sh_711 hOK) rfl (by decide) ?_
      refine g_bipush (q0 := 76) rfl dX12_count_74 (k := ?_)
      refine g_iload_n (q0 := 77) (j := 3) rfl dX12_count_76 rfl ?_
      refine g_imulw (q0 := 78) rfl dX12_count_77 ?_
      refine g_iconst (q0 := 79) rfl dX12_count_78 (k := ?_)
      refine g_iaddw (q0 := 80) rfl dX12_count_79 ?_
      obtain ⟨g1, h⟩ := gI_gd h
      refine g_iald (q0 := 81) rfl dX12_count_80 (sh_729 hOK) g1.1 g1.2 ?_
      refine g_iaddw (q0 := 82) rfl dX12_count_81 ?_
      refine g_istore_n (q0 := 83) (j := 2) (lv2 := [_, _, _, _]) rfl dX12_count_82 (by decide) rfl rfl ?_
      refine g_iincw (q0 := 86) (lv2 := [_, _, _, _]) rfl dX12_count_83 rfl (by decide) rfl rfl ?_
      refine g_goto (tgt := 64) dX12_count_86 (by decide) ?_
      exact (hk _ _ h) _ _ _ rfl hOK
theorem ok_count_64 {sh : gS} {M : gM} {x1 x2 x3 : Int} {b : Int} (hOK : gOK sh M) (h : F_count_64 M x1 x2 x3 = some b) : gA (gr 4 90) yX12_count cX12_count 4 (some (.int)) (gPq sh (some (0, b)) M) (0, 0) 64 [(4, 711), (0, x1), (0, x2), (0, x3)] [] sh M :=
  (okp_count _ _ h) _ _ _ rfl hOK
theorem ok_count {sh : gS} {M : gM} {a1 : Int} {b : Int} (hOK : gOK sh M) (h : F_count M a1 = some b) : gC (gr 4 90) yX12_count cX12_count 4 (some (.int)) [(4, 711), (0, a1)] sh M (gPq sh (some (0, b)) M) := by
  rw [eq_count] at h
  refine gC_ofA (lv := [_, _, _, _]) (by decide +kernel) (Nat.le_of_ble_eq_true rfl) rfl (fun hMw hav => ?_)
  refine g_iload_n (q0 := 1) (j := 1) rfl dX12_count_0 rfl ?_
  by_cases hs0 : a1 = 0
  · replace h := gI_pos hs0 h
    refine g_tabIn (off := 39) (tgt := 40) dX12_count_1 (by omega) (by omega) (by rw [hs0]; rfl) (by decide) ?_
    refine g_aload_n (q0 := 41) (j := 0) rfl dX12_count_40 rfl ?_
    refine g_getf (q0 := 44) (t := 0) (fi := 0) rfl rfl ff_X12_178 dX12_count_41 rfl (sh_711 hOK) ?_
    rw [← Option.some.inj h]
    refine g_ireturn dX12_count_44 rfl ⟨Nat.zero_le _, Nat.zero_le _⟩ ?_
    exact ⟨rfl, rfl, rfl⟩
  · replace h := gI_neg hs0 h
    by_cases hs1 : a1 = 1
    · replace h := gI_pos hs1 h
      refine g_tabIn (off := 44) (tgt := 45) dX12_count_1 (by omega) (by omega) (by rw [hs1]; rfl) (by decide) ?_
      refine g_aload_n (q0 := 46) (j := 0) rfl dX12_count_45 rfl ?_
      refine g_getf (q0 := 49) (t := 0) (fi := 18) rfl rfl ff_X12_249 dX12_count_46 rfl (sh_711 hOK) ?_
      rw [← Option.some.inj h]
      refine g_ireturn dX12_count_49 rfl ⟨Nat.zero_le _, Nat.zero_le _⟩ ?_
      exact ⟨rfl, rfl, rfl⟩
    · replace h := gI_neg hs1 h
      by_cases hs2 : a1 = 2
      · replace h := gI_pos hs2 h
        refine g_tabIn (off := 49) (tgt := 50) dX12_count_1 (by omega) (by omega) (by rw [hs2]; rfl) (by decide) ?_
        refine g_aload_n (q0 := 51) (j := 0) rfl dX12_count_50 rfl ?_
        obtain ⟨r51, e51, h⟩ := gI_bd h
        refine g_callVq1 (as := []) (rest := []) mt_X12_trees mi_X12_trees se_X12_trees ml_X12_788 dX12_count_51 (q0 := 54) rfl rfl (sh_711 hOK) rfl rfl (ok_trees hOK e51) rfl ⟨by decide, by decide⟩ (Nat.le_of_ble_eq_true rfl) ⟨Nat.zero_le _, Nat.zero_le _⟩ ?_
        rw [← Option.some.inj h]
        refine g_ireturn dX12_count_54 rfl ⟨Nat.zero_le _, Nat.zero_le _⟩ ?_
        exact ⟨rfl, rfl, rfl⟩
      · replace h := gI_neg hs2 h
        by_cases hs3 : a1 = 3
        · replace h := gI_pos hs3 h
          refine g_tabIn (off := 54) (tgt := 55) dX12_count_1 (by omega) (by omega) (by rw [hs3]; rfl) (by decide) ?_
          refine g_aload_n (q0 := 56) (j := 0) rfl dX12_count_55 rfl ?_
          obtain ⟨r56, e56, h⟩ := gI_bd h
          refine g_callVq1 (as := []) (rest := []) mt_X12_contents mi_X12_contents se_X12_contents ml_X12_791 dX12_count_56 (q0 := 59) rfl rfl (sh_711 hOK) rfl rfl (ok_contents hOK e56) rfl ⟨by decide, by decide⟩ (Nat.le_of_ble_eq_true rfl) ⟨Nat.zero_le _, Nat.zero_le _⟩ ?_
          rw [← Option.some.inj h]
          refine g_ireturn dX12_count_59 rfl ⟨Nat.zero_le _, Nat.zero_le _⟩ ?_
          exact ⟨rfl, rfl, rfl⟩
        · replace h := gI_neg hs3 h
          by_cases hs4 : a1 = 4
          · replace h := gI_pos hs4 h
            refine g_tabIn (off := 59) (tgt := 60) dX12_count_1 (by omega) (by omega) (by rw [hs4]; rfl) (by decide) ?_
            refine g_iconst (q0 := 61) rfl dX12_count_60 (k := ?_)
            refine g_istore_n (q0 := 62) (j := 2) (lv2 := [_, _, _, _]) rfl dX12_count_61 (by decide) rfl rfl ?_
            refine g_iconst (q0 := 63) rfl dX12_count_62 (k := ?_)
            refine g_istore_n (q0 := 64) (j := 3) (lv2 := [_, _, _, _]) rfl dX12_count_63 (by decide) rfl rfl ?_
            exact ok_count_64 hOK h
          · replace h := gI_neg hs4 h
            by_cases hs5 : a1 = 5
            · replace h := gI_pos hs5 h
              refine g_tabIn (off := 90) (tgt := 91) dX12_count_1 (by omega) (by omega) (by rw [hs5]; rfl) (by decide) ?_
              refine g_aload_n (q0 := 92) (j := 0) rfl dX12_count_91 rfl ?_
              refine g_iconst (q0 := 93) rfl dX12_count_92 (k := ?_)
              obtain ⟨r93, e93, h⟩ := gI_bd h
              refine g_callVq1 (as := [_]) (rest := []) mt_X12_refs mi_X12_refs se_X12_refs ml_X12_356 dX12_count_93 (q0 := 96) rfl rfl (sh_711 hOK) rfl rfl (ok_refs hOK e93) rfl ⟨by decide, by decide⟩ (Nat.le_of_ble_eq_true rfl) ⟨Nat.zero_le _, Nat.zero_le _⟩ ?_
              refine g_aload_n (q0 := 97) (j := 0) rfl dX12_count_96 rfl ?_
              refine g_iconst (q0 := 98) rfl dX12_count_97 (k := ?_)
              obtain ⟨r98, e98, h⟩ := gI_bd h
              refine g_callVq1 (as := [_]) (rest := [_]) mt_X12_refs mi_X12_refs se_X12_refs ml_X12_356 dX12_count_98 (q0 := 101) rfl rfl (sh_711 hOK) rfl rfl (ok_refs hOK e98) rfl ⟨by decide, by decide⟩ (Nat.le_of_ble_eq_true rfl) ⟨Nat.zero_le _, Nat.zero_le _⟩ ?_
              refine g_iaddw (q0 := 102) rfl dX12_count_101 ?_
              refine g_aload_n (q0 := 103) (j := 0) rfl dX12_count_102 rfl ?_
              refine g_iconst (q0 := 104) rfl dX12_count_103 (k := ?_)
              obtain ⟨r104, e104, h⟩ := gI_bd h
              refine g_callVq1 (as := [_]) (rest := [_]) mt_X12_refs mi_X12_refs se_X12_refs ml_X12_356 dX12_count_104 (q0 := 107) rfl rfl (sh_711 hOK) rfl rfl (ok_refs hOK e104) rfl ⟨by decide, by decide⟩ (Nat.le_of_ble_eq_true rfl) ⟨Nat.zero_le _, Nat.zero_le _⟩ ?_
              refine g_iaddw (q0 := 108) rfl dX12_count_107 ?_
              refine g_aload_n (q0 := 109) (j := 0) rfl dX12_count_108 rfl ?_
              refine g_iconst (q0 := 110) rfl dX12_count_109 (k := ?_)
              obtain ⟨r110, e110, h⟩ := gI_bd h
              refine g_callVq1 (as := [_]) (rest := [_]) mt_X12_refs mi_X12_refs se_X12_refs ml_X12_356 dX12_count_110 (q0 := 113) rfl rfl (sh_711 hOK) rfl rfl (ok_refs hOK e110) rfl ⟨by decide, by decide⟩ (Nat.le_of_ble_eq_true rfl) ⟨Nat.zero_le _, Nat.zero_le _⟩ ?_
              refine g_iaddw (q0 := 114) rfl dX12_count_113 ?_
              rw [← Option.some.inj h]
              refine g_ireturn dX12_count_114 rfl ⟨Nat.zero_le _, Nat.zero_le _⟩ ?_
              exact ⟨rfl, rfl, rfl⟩
            · replace h := gI_neg hs5 h
              refine g_tabOut (tgt := 115) dX12_count_1 (by omega) (by decide) ?_
              refine g_iconst (q0 := 116) rfl dX12_count_115 (k := ?_)
              rw [← Option.some.inj h]
              refine g_ireturn dX12_count_116 rfl ⟨Nat.zero_le _, Nat.zero_le _⟩ ?_
              exact ⟨rfl, rfl, rfl⟩
