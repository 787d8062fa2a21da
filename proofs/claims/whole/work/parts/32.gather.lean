-- ==== PARENTS' are gathered
theorem dX8_gatherParents_0 : decode cX8_gatherParents 0 = .ok (.aload_n 1, 1) := by decide +kernel
theorem dX8_gatherParents_1 : decode cX8_gatherParents 1 = .ok (.aload_n 0, 1) := by decide +kernel
theorem dX8_gatherParents_2 : decode cX8_gatherParents 2 = .ok (.getfield 12, 3) := by decide +kernel
theorem dX8_gatherParents_5 : decode cX8_gatherParents 5 = .ok (.iload_n 2, 1) := by decide +kernel
theorem dX8_gatherParents_6 : decode cX8_gatherParents 6 = .ok (.invokevirtual 66, 3) := by decide +kernel
theorem dX8_gatherParents_9 : decode cX8_gatherParents 9 = .ok (.istore_n 3, 1) := by decide +kernel
theorem dX8_gatherParents_10 : decode cX8_gatherParents 10 = .ok (.iconst 0, 1) := by decide +kernel
theorem dX8_gatherParents_11 : decode cX8_gatherParents 11 = .ok (.istore 4, 2) := by decide +kernel
theorem dX8_gatherParents_13 : decode cX8_gatherParents 13 = .ok (.iload 4, 2) := by decide +kernel
theorem dX8_gatherParents_15 : decode cX8_gatherParents 15 = .ok (.iload_n 3, 1) := by decide +kernel
theorem dX8_gatherParents_16 : decode cX8_gatherParents 16 = .ok (.if_icmp .ge 82, 3) := by decide +kernel
theorem dX8_gatherParents_19 : decode cX8_gatherParents 19 = .ok (.aload_n 1, 1) := by decide +kernel
theorem dX8_gatherParents_20 : decode cX8_gatherParents 20 = .ok (.aload_n 0, 1) := by decide +kernel
theorem dX8_gatherParents_21 : decode cX8_gatherParents 21 = .ok (.getfield 12, 3) := by decide +kernel
theorem dX8_gatherParents_24 : decode cX8_gatherParents 24 = .ok (.iload_n 2, 1) := by decide +kernel
theorem dX8_gatherParents_25 : decode cX8_gatherParents 25 = .ok (.iload 4, 2) := by decide +kernel
theorem dX8_gatherParents_27 : decode cX8_gatherParents 27 = .ok (.invokevirtual 72, 3) := by decide +kernel
theorem dX8_gatherParents_30 : decode cX8_gatherParents 30 = .ok (.istore 5, 2) := by decide +kernel
theorem dX8_gatherParents_32 : decode cX8_gatherParents 32 = .ok (.aload_n 0, 1) := by decide +kernel
theorem dX8_gatherParents_33 : decode cX8_gatherParents 33 = .ok (.getfield 37, 3) := by decide +kernel
theorem dX8_gatherParents_36 : decode cX8_gatherParents 36 = .ok (.iload 5, 2) := by decide +kernel
theorem dX8_gatherParents_38 : decode cX8_gatherParents 38 = .ok (.iaload, 1) := by decide +kernel
theorem dX8_gatherParents_39 : decode cX8_gatherParents 39 = .ok (.istore 6, 2) := by decide +kernel
theorem dX8_gatherParents_41 : decode cX8_gatherParents 41 = .ok (.iload 6, 2) := by decide +kernel
theorem dX8_gatherParents_43 : decode cX8_gatherParents 43 = .ok (.ifCond .lt 49, 3) := by decide +kernel
theorem dX8_gatherParents_46 : decode cX8_gatherParents 46 = .ok (.aload_n 0, 1) := by decide +kernel
theorem dX8_gatherParents_47 : decode cX8_gatherParents 47 = .ok (.getfield 21, 3) := by decide +kernel
theorem dX8_gatherParents_50 : decode cX8_gatherParents 50 = .ok (.iload 6, 2) := by decide +kernel
theorem dX8_gatherParents_52 : decode cX8_gatherParents 52 = .ok (.invokevirtual 215, 3) := by decide +kernel
theorem dX8_gatherParents_55 : decode cX8_gatherParents 55 = .ok (.ifCond .ne 37, 3) := by decide +kernel
theorem dX8_gatherParents_58 : decode cX8_gatherParents 58 = .ok (.aload_n 0, 1) := by decide +kernel
theorem dX8_gatherParents_59 : decode cX8_gatherParents 59 = .ok (.getfield 21, 3) := by decide +kernel
theorem dX8_gatherParents_62 : decode cX8_gatherParents 62 = .ok (.getfield 158, 3) := by decide +kernel
theorem dX8_gatherParents_65 : decode cX8_gatherParents 65 = .ok (.iconst 3, 1) := by decide +kernel
theorem dX8_gatherParents_66 : decode cX8_gatherParents 66 = .ok (.if_icmp .ge 26, 3) := by decide +kernel
theorem dX8_gatherParents_69 : decode cX8_gatherParents 69 = .ok (.aload_n 0, 1) := by decide +kernel
theorem dX8_gatherParents_70 : decode cX8_gatherParents 70 = .ok (.getfield 44, 3) := by decide +kernel
theorem dX8_gatherParents_73 : decode cX8_gatherParents 73 = .ok (.aload_n 0, 1) := by decide +kernel
theorem dX8_gatherParents_74 : decode cX8_gatherParents 74 = .ok (.getfield 21, 3) := by decide +kernel
theorem dX8_gatherParents_77 : decode cX8_gatherParents 77 = .ok (.getfield 158, 3) := by decide +kernel
theorem dX8_gatherParents_80 : decode cX8_gatherParents 80 = .ok (.iload 5, 2) := by decide +kernel
theorem dX8_gatherParents_82 : decode cX8_gatherParents 82 = .ok (.iastore, 1) := by decide +kernel
theorem dX8_gatherParents_83 : decode cX8_gatherParents 83 = .ok (.aload_n 0, 1) := by decide +kernel
theorem dX8_gatherParents_84 : decode cX8_gatherParents 84 = .ok (.getfield 21, 3) := by decide +kernel
theorem dX8_gatherParents_87 : decode cX8_gatherParents 87 = .ok (.iload 6, 2) := by decide +kernel
theorem dX8_gatherParents_89 : decode cX8_gatherParents 89 = .ok (.invokevirtual 218, 3) := by decide +kernel
theorem dX8_gatherParents_92 : decode cX8_gatherParents 92 = .ok (.iinc 4 1, 3) := by decide +kernel
theorem dX8_gatherParents_95 : decode cX8_gatherParents 95 = .ok (.goto (-82), 3) := by decide +kernel
theorem dX8_gatherParents_98 : decode cX8_gatherParents 98 = .ok (.return_, 1) := by decide +kernel
/-- the draft, and what each of its parents counts as -/
def rGa (im : Int → Int) : List Int → kC → List Int → kC × List Int
  | [], d, ca => (d, ca)
  | e :: r, d, ca => if 0 ≤ im e ∧ im e ∉ kPs d ∧ (kPs d).length < 3 then rGa im r (dAddP d (im e)) (ca ++ [e]) else rGa im r d ca
def gaP (sh : gS) (M : gM) (d : kC) (ca : List Int) (M1 : gM) : Prop :=
  dOk sh M1 380 d ∧ rw_ (M1 397) 0 ca ∧ ca.length = (kPs d).length ∧ gOK sh M1 ∧ ∀ b : Int, b ≠ 397 → (b < 380 ∨ 388 < b) → M1 b = M b
theorem sp_X8_gatherParents {sh : gS} {M : gM} {a : Int} {cs : List kC} {pl : kP} {k : Nat} {c d : kC} {im : Int → Int} (hOK : gOK sh M) (hC : cOk sh M cs) (hk : cs[k]? = some c) (hP : plOk sh M a pl) (hF : kForeOk cs pl) (hD : dOk sh M 380 d) (hd0 : kPs d = []) (him : ∀ q : Int, 0 ≤ q → q < 120 → M 395 q = im q) (hir : ∀ q : Int, 0 ≤ q → q < 120 → -1 ≤ im q ∧ im q < 120) (ha : 397 < a) :
    gC (gr 2 46) yX8_gatherParents cX8_gatherParents 7 none [(4, 3), (4, a), (0, (k : Int))] sh M (gPm sh (fun r M1 => r = none ∧ gaP sh M (rGa im (kForeL c pl (k : Int)) d []).1 (rGa im (kForeL c pl (k : Int)) d []).2 M1)) := by
  have hl := cOk_len hC hk
  have hfo := hF k c hk
  have hap := hP.1.1
  have hdp := hD.1.1
  generalize hx : rGa im (kForeL c pl (k : Int)) d [] = x
  have hfl : (kForeL c pl (k : Int)).length ≤ 3 := by
    unfold kForeL
    split
    · split <;> simp
    · exact ((hC.2.2.2 k c hk).2.1).1
  have l2 : ∀ (t2 t1 : List Int) (d1 : kC) (ca : List Int) (M1 : gM) (w5 w6 : gV), gw w5 → gw w6 → kForeL c pl (k : Int) = t1 ++ t2 → gaP sh M d1 ca M1 → rGa im t2 d1 ca = x →
      gA (gr 2 46) yX8_gatherParents cX8_gatherParents 7 none (gPm sh (fun r M1 => r = none ∧ gaP sh M x.1 x.2 M1)) (0, 0) 13 [(4, 3), (4, a), (0, (k : Int)), (0, ((kForeL c pl (k : Int)).length : Int)), (0, (t1.length : Int)), w5, w6] [] sh M1 := by
    intro t2
    induction t2 with
    | nil =>
      intro t1 d1 ca M1 w5 w6 g5 g6 e1 hG hv
      have hO1 := hG.2.2.2.1
      have hl2 : (kForeL c pl (k : Int)).length = t1.length := by rw [e1]; simp
      refine g_iload (q0 := 15) (j := 4) rfl dX8_gatherParents_13 rfl ?_
      refine g_iload_n (q0 := 16) (j := 3) rfl dX8_gatherParents_15 rfl ?_
      refine g_icmp_ge (q0 := 19) (tgt := 98) rfl dX8_gatherParents_16 (by decide) (fun h16 => ?_) (fun h16 => ?_)
      · refine g_return dX8_gatherParents_98 rfl ⟨Nat.zero_le _, Nat.zero_le _⟩ ?_
        rw [← hv]
        exact ⟨rfl, rfl, hG⟩
      · omega
    | cons p t2 ih =>
      intro t1 d1 ca M1 w5 w6 g5 g6 e1 hG hv
      obtain ⟨hD1, hca, hcl, hO1, hF1⟩ := id hG
      have hl2 : (kForeL c pl (k : Int)).length = t1.length + t2.length + 1 := by rw [e1]; simp; omega
      have hp := hfo p (by rw [e1]; simp)
      have hat2 : (kForeL c pl (k : Int))[t1.length]? = some p := by rw [e1, List.getElem?_append_right (Nat.le_refl _)]; simp
      have hC1 : cOk sh M1 cs := cOk_fr hC (fun b b0 b1 => hF1 b (by omega) (by omega))
      have hP1 := plOk_keep (M1 := M1) hP (fun b b0 b1 => hF1 b (by omega) (by omega))
      have eim : M1 395 p = im p := by rw [hF1 395 (by decide) (by decide)]; exact him p hp.1 (by omega)
      have hpw : gw (0, p) := ⟨by show -2147483648 ≤ p; omega, by show p < 2147483648; omega⟩
      have epc := hD1.2.1
      have epl := hD1.2.2.1
      rw [rGa] at hv
      have e9 : ((t1.length : Int) + 1) = ((t1 ++ [p]).length : Int) := by simp
      have e1b : kForeL c pl (k : Int) = (t1 ++ [p]) ++ t2 := by rw [e1]; simp
      have hno : ¬ (0 ≤ im p ∧ im p ∉ kPs d1 ∧ (kPs d1).length < 3) → ∀ w6 : gV, gw w6 → gA (gr 2 46) yX8_gatherParents cX8_gatherParents 7 none (gPm sh (fun r M1 => r = none ∧ gaP sh M x.1 x.2 M1)) (0, 0) 92 [(4, 3), (4, a), (0, (k : Int)), (0, ((kForeL c pl (k : Int)).length : Int)), (0, (t1.length : Int)), (0, p), w6] [] sh M1 := by
        intro hn w6 g6
        rw [if_neg hn] at hv
        refine g_iinc (q0 := 95) (lv2 := [_, _, _, _, _, _, _]) rfl dX8_gatherParents_92 rfl (by decide) rfl rfl (by omega) (by omega) ?_
        refine g_goto (tgt := 13) dX8_gatherParents_95 (by decide) ?_
        rw [e9]
        exact ih (t1 ++ [p]) d1 ca M1 _ _ hpw g6 e1b hG hv
      refine g_iload (q0 := 15) (j := 4) rfl dX8_gatherParents_13 rfl ?_
      refine g_iload_n (q0 := 16) (j := 3) rfl dX8_gatherParents_15 rfl ?_
      refine g_icmp_ge (q0 := 19) (tgt := 98) rfl dX8_gatherParents_16 (by decide) (fun h16 => ?_) (fun h16 => ?_)
      · omega
      · refine g_aload_n (q0 := 20) (j := 1) rfl dX8_gatherParents_19 rfl ?_
        refine g_aload_n (q0 := 21) (j := 0) rfl dX8_gatherParents_20 rfl ?_
        refine g_getp (q0 := 24) (b := 4) rfl ff_X8_12 dX8_gatherParents_21 rfl hO1 (by decide) (sh_3 hO1) rfl (by decide) ?_
        refine g_iload_n (q0 := 25) (j := 2) rfl dX8_gatherParents_24 rfl ?_
        refine g_iload (q0 := 27) (j := 4) rfl dX8_gatherParents_25 rfl ?_
        refine g_callVp (as := [_, _, _]) (rest := []) mt_X5_foreAt mi_X5_foreAt se_X5_foreAt ml_X8_72 dX8_gatherParents_27 (q0 := 30) rfl rfl (by assumption) rfl rfl (sp_X5_foreAt hO1 hC1 hk hP1 hat2) rfl ⟨by decide, by decide⟩ (Nat.le_of_ble_eq_true rfl) ⟨Nat.zero_le _, Nat.zero_le _⟩ (fun hwc => ?_)
        refine g_istore (q0 := 32) (j := 5) (lv2 := [_, _, _, _, _, _, _]) rfl dX8_gatherParents_30 (by decide) rfl rfl ?_
        refine g_aload_n (q0 := 33) (j := 0) rfl dX8_gatherParents_32 rfl ?_
        refine g_getp (q0 := 36) (b := 395) rfl ff_X8_37 dX8_gatherParents_33 rfl hO1 (by decide) (sh_3 hO1) rfl (by decide) ?_
        refine g_iload (q0 := 38) (j := 5) rfl dX8_gatherParents_36 rfl ?_
        refine g_iald (q0 := 39) rfl dX8_gatherParents_38 (sh_395 hO1) (by omega) (by omega) ?_
        refine g_istore (q0 := 41) (j := 6) (lv2 := [_, _, _, _, _, _, _]) rfl dX8_gatherParents_39 (by decide) rfl rfl ?_
        rw [eim]
        have hr9 := hir p hp.1 (by omega)
        have himw : gw (0, im p) := ⟨by show -2147483648 ≤ im p; omega, by show im p < 2147483648; omega⟩
        refine g_iload (q0 := 43) (j := 6) rfl dX8_gatherParents_41 rfl ?_
        refine g_if_lt (q0 := 46) (tgt := 92) rfl dX8_gatherParents_43 (by decide) (fun h43 => ?_) (fun h43 => ?_)
        · exact hno (fun q => by omega) _ himw
        · refine g_aload_n (q0 := 47) (j := 0) rfl dX8_gatherParents_46 rfl ?_
          refine g_getp (q0 := 50) (b := 380) rfl ff_X8_21 dX8_gatherParents_47 rfl hO1 (by decide) (sh_3 hO1) rfl (by decide) ?_
          refine g_iload (q0 := 52) (j := 6) rfl dX8_gatherParents_50 rfl ?_
          refine g_callVp (as := [_]) (rest := []) mt_X2_hasParent mi_X2_hasParent se_X2_hasParent ml_X8_215 dX8_gatherParents_52 (q0 := 55) rfl rfl (sh_380 hO1) rfl rfl (sp_X2_hasParent hO1 hD1) rfl ⟨by decide, by decide⟩ (Nat.le_of_ble_eq_true rfl) ⟨Nat.zero_le _, Nat.zero_le _⟩ (fun hwc => ?_)
          by_cases hin : im p ∈ kPs d1
          · rw [decide_eq_true hin]
            refine g_if_ne (q0 := 58) (tgt := 92) rfl dX8_gatherParents_55 (by decide) (fun h55 => ?_) (fun h55 => ?_)
            · exact hno (fun q => q.2.1 hin) _ himw
            · exact absurd h55 (by decide)
          · rw [decide_eq_false hin]
            refine g_if_ne (q0 := 58) (tgt := 92) rfl dX8_gatherParents_55 (by decide) (fun h55 => ?_) (fun h55 => ?_)
            · exact absurd rfl h55
            · refine g_aload_n (q0 := 59) (j := 0) rfl dX8_gatherParents_58 rfl ?_
              refine g_getp (q0 := 62) (b := 380) rfl ff_X8_21 dX8_gatherParents_59 rfl hO1 (by decide) (sh_3 hO1) rfl (by decide) ?_
              refine g_getf (q0 := 65) (t := 0) (fi := 1) rfl rfl ff_X8_158 dX8_gatherParents_62 rfl (sh_380 hO1) ?_
              refine g_iconst (q0 := 66) rfl dX8_gatherParents_65 (k := ?_)
              refine g_icmp_ge (q0 := 69) (tgt := 92) rfl dX8_gatherParents_66 (by decide) (fun h66 => ?_) (fun h66 => ?_)
              · exact hno (fun q => by omega) _ himw
              · rw [if_pos ⟨by omega, hin, by omega⟩] at hv
                refine g_aload_n (q0 := 70) (j := 0) rfl dX8_gatherParents_69 rfl ?_
                refine g_getp (q0 := 73) (b := 397) rfl ff_X8_44 dX8_gatherParents_70 rfl hO1 (by decide) (sh_3 hO1) rfl (by decide) ?_
                refine g_aload_n (q0 := 74) (j := 0) rfl dX8_gatherParents_73 rfl ?_
                refine g_getp (q0 := 77) (b := 380) rfl ff_X8_21 dX8_gatherParents_74 rfl hO1 (by decide) (sh_3 hO1) rfl (by decide) ?_
                refine g_getf (q0 := 80) (t := 0) (fi := 1) rfl rfl ff_X8_158 dX8_gatherParents_77 rfl (sh_380 hO1) ?_
                refine g_iload (q0 := 82) (j := 5) rfl dX8_gatherParents_80 rfl ?_
                refine g_iast (q0 := 83) rfl dX8_gatherParents_82 (sh_397 hO1) (by omega) (by omega) ?_
                refine g_aload_n (q0 := 84) (j := 0) rfl dX8_gatherParents_83 rfl ?_
                refine g_getp (q0 := 87) (b := 380) rfl ff_X8_21 dX8_gatherParents_84 rfl (gOK_i hO1 (sh_397 hO1)) (by decide) (sh_3 hO1) rfl (by decide) ?_
                refine g_iload (q0 := 89) (j := 6) rfl dX8_gatherParents_87 rfl ?_
                rw [epc]
                generalize hM2 : gU M1 397 ((kPs d1).length : Int) p = M2
                have hO2 : gOK sh M2 := by rw [← hM2]; exact gOK_i hO1 (sh_397 hO1)
                have hF2 : ∀ b : Int, b ≠ 397 → M2 b = M1 b := fun b hb => by rw [← hM2, gU_cell _ _ _ hb]
                have hD2 := dOk_keep (M1 := M2) hD1 (fun b b0 b1 => hF2 b (by omega))
                have hca2 : rw_ (M2 397) 0 (ca ++ [p]) := by
                  rw [← hM2]
                  refine rw_snoc (rw_congr hca (fun q q0 q1 => ?_)) ?_
                  · rw [gU_idx (by omega)]
                  · rw [Int.zero_add, hcl, gU_same]
                refine g_callVm (as := [_]) (rest := []) mt_X2_addParent mi_X2_addParent se_X2_addParent ml_X8_218 dX8_gatherParents_89 (q0 := 92) rfl rfl (sh_380 hO2) rfl rfl (sp_X2_addParent hO2 hD2) rfl ⟨by decide, by decide⟩ (Nat.le_of_ble_eq_true rfl) ⟨Nat.zero_le _, Nat.zero_le _⟩ (fun r3 M3 hP3 hw3 hMw3 => ?_)
                obtain ⟨rfl, hD3, hO3, hF3⟩ := hP3
                refine g_iinc (q0 := 95) (lv2 := [_, _, _, _, _, _, _]) rfl dX8_gatherParents_92 rfl (by decide) rfl rfl (by omega) (by omega) ?_
                refine g_goto (tgt := 13) dX8_gatherParents_95 (by decide) ?_
                rw [e9]
                refine ih (t1 ++ [p]) (dAddP d1 (im p)) (ca ++ [p]) M3 _ _ hpw himw e1b ⟨hD3, by rw [hF3 397 (by omega)]; exact hca2, ?_, hO3, fun b b0 b1 => by rw [hF3 b (by omega), hF2 b b0, hF1 b b0 b1]⟩ hv
                rw [dAddP, if_pos (by omega)]
                show (ca ++ [p]).length = (kPs d1 ++ [im p]).length
                simp [hcl]
  have hP0 := hP
  refine gC_ofA (lv := [_, _, _, _, _, _, _]) (by decide +kernel) (Nat.le_of_ble_eq_true rfl) rfl (fun hMw hav => ?_)
  refine g_aload_n (q0 := 1) (j := 1) rfl dX8_gatherParents_0 rfl ?_
  refine g_aload_n (q0 := 2) (j := 0) rfl dX8_gatherParents_1 rfl ?_
  refine g_getp (q0 := 5) (b := 4) rfl ff_X8_12 dX8_gatherParents_2 rfl hOK (by decide) (sh_3 hOK) rfl (by decide) ?_
  refine g_iload_n (q0 := 6) (j := 2) rfl dX8_gatherParents_5 rfl ?_
  refine g_callVp (as := [_, _]) (rest := []) mt_X5_foreCount mi_X5_foreCount se_X5_foreCount ml_X8_66 dX8_gatherParents_6 (q0 := 9) rfl rfl (by assumption) rfl rfl (sp_X5_foreCount hOK hC hk hP) rfl ⟨by decide, by decide⟩ (Nat.le_of_ble_eq_true rfl) ⟨Nat.zero_le _, Nat.zero_le _⟩ (fun hwc => ?_)
  refine g_istore_n (q0 := 10) (j := 3) (lv2 := [_, _, _, _, _, _, _]) rfl dX8_gatherParents_9 (by decide) rfl rfl ?_
  refine g_iconst (q0 := 11) rfl dX8_gatherParents_10 (k := ?_)
  refine g_istore (q0 := 13) (j := 4) (lv2 := [_, _, _, _, _, _, _]) rfl dX8_gatherParents_11 (by decide) rfl rfl ?_
  exact l2 (kForeL c pl (k : Int)) [] d [] M _ _ trivial trivial rfl ⟨hD, rw_nil, by rw [hd0], hOK, fun _ _ _ => rfl⟩ hx
