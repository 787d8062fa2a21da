-- ==== a PLAN begins
theorem dX5_begin_0 : decode cX5_begin 0 = .ok (.aload_n 0, 1) := by decide +kernel
theorem dX5_begin_1 : decode cX5_begin 1 = .ok (.iconst 1, 1) := by decide +kernel
theorem dX5_begin_2 : decode cX5_begin 2 = .ok (.putfield 45, 3) := by decide +kernel
theorem dX5_begin_5 : decode cX5_begin 5 = .ok (.aload_n 0, 1) := by decide +kernel
theorem dX5_begin_6 : decode cX5_begin 6 = .ok (.iconst 0, 1) := by decide +kernel
theorem dX5_begin_7 : decode cX5_begin 7 = .ok (.putfield 49, 3) := by decide +kernel
theorem dX5_begin_10 : decode cX5_begin 10 = .ok (.aload_n 0, 1) := by decide +kernel
theorem dX5_begin_11 : decode cX5_begin 11 = .ok (.getfield 14, 3) := by decide +kernel
theorem dX5_begin_14 : decode cX5_begin 14 = .ok (.iconst 0, 1) := by decide +kernel
theorem dX5_begin_15 : decode cX5_begin 15 = .ok (.putfield 53, 3) := by decide +kernel
theorem dX5_begin_18 : decode cX5_begin 18 = .ok (.aload_n 0, 1) := by decide +kernel
theorem dX5_begin_19 : decode cX5_begin 19 = .ok (.getfield 20, 3) := by decide +kernel
theorem dX5_begin_22 : decode cX5_begin 22 = .ok (.iconst 0, 1) := by decide +kernel
theorem dX5_begin_23 : decode cX5_begin 23 = .ok (.putfield 53, 3) := by decide +kernel
theorem dX5_begin_26 : decode cX5_begin 26 = .ok (.aload_n 0, 1) := by decide +kernel
theorem dX5_begin_27 : decode cX5_begin 27 = .ok (.getfield 23, 3) := by decide +kernel
theorem dX5_begin_30 : decode cX5_begin 30 = .ok (.iconst 0, 1) := by decide +kernel
theorem dX5_begin_31 : decode cX5_begin 31 = .ok (.putfield 53, 3) := by decide +kernel
theorem dX5_begin_34 : decode cX5_begin 34 = .ok (.aload_n 0, 1) := by decide +kernel
theorem dX5_begin_35 : decode cX5_begin 35 = .ok (.getfield 26, 3) := by decide +kernel
theorem dX5_begin_38 : decode cX5_begin 38 = .ok (.iconst 0, 1) := by decide +kernel
theorem dX5_begin_39 : decode cX5_begin 39 = .ok (.putfield 53, 3) := by decide +kernel
theorem dX5_begin_42 : decode cX5_begin 42 = .ok (.aload_n 0, 1) := by decide +kernel
theorem dX5_begin_43 : decode cX5_begin 43 = .ok (.getfield 29, 3) := by decide +kernel
theorem dX5_begin_46 : decode cX5_begin 46 = .ok (.iconst 0, 1) := by decide +kernel
theorem dX5_begin_47 : decode cX5_begin 47 = .ok (.putfield 53, 3) := by decide +kernel
theorem dX5_begin_50 : decode cX5_begin 50 = .ok (.aload_n 0, 1) := by decide +kernel
theorem dX5_begin_51 : decode cX5_begin 51 = .ok (.getfield 32, 3) := by decide +kernel
theorem dX5_begin_54 : decode cX5_begin 54 = .ok (.iconst 0, 1) := by decide +kernel
theorem dX5_begin_55 : decode cX5_begin 55 = .ok (.putfield 53, 3) := by decide +kernel
theorem dX5_begin_58 : decode cX5_begin 58 = .ok (.aload_n 0, 1) := by decide +kernel
theorem dX5_begin_59 : decode cX5_begin 59 = .ok (.getfield 35, 3) := by decide +kernel
theorem dX5_begin_62 : decode cX5_begin 62 = .ok (.iconst 0, 1) := by decide +kernel
theorem dX5_begin_63 : decode cX5_begin 63 = .ok (.putfield 53, 3) := by decide +kernel
theorem dX5_begin_66 : decode cX5_begin 66 = .ok (.aload_n 0, 1) := by decide +kernel
theorem dX5_begin_67 : decode cX5_begin 67 = .ok (.iconst 0, 1) := by decide +kernel
theorem dX5_begin_68 : decode cX5_begin 68 = .ok (.putfield 56, 3) := by decide +kernel
theorem dX5_begin_71 : decode cX5_begin 71 = .ok (.aload_n 0, 1) := by decide +kernel
theorem dX5_begin_72 : decode cX5_begin 72 = .ok (.iconst 1, 1) := by decide +kernel
theorem dX5_begin_73 : decode cX5_begin 73 = .ok (.putfield 59, 3) := by decide +kernel
theorem dX5_begin_76 : decode cX5_begin 76 = .ok (.aload_n 0, 1) := by decide +kernel
theorem dX5_begin_77 : decode cX5_begin 77 = .ok (.iconst 2, 1) := by decide +kernel
theorem dX5_begin_78 : decode cX5_begin 78 = .ok (.putfield 62, 3) := by decide +kernel
theorem dX5_begin_81 : decode cX5_begin 81 = .ok (.aload_n 0, 1) := by decide +kernel
theorem dX5_begin_82 : decode cX5_begin 82 = .ok (.iconst 2, 1) := by decide +kernel
theorem dX5_begin_83 : decode cX5_begin 83 = .ok (.putfield 65, 3) := by decide +kernel
theorem dX5_begin_86 : decode cX5_begin 86 = .ok (.aload_n 0, 1) := by decide +kernel
theorem dX5_begin_87 : decode cX5_begin 87 = .ok (.iconst 0, 1) := by decide +kernel
theorem dX5_begin_88 : decode cX5_begin 88 = .ok (.putfield 68, 3) := by decide +kernel
theorem dX5_begin_91 : decode cX5_begin 91 = .ok (.aload_n 0, 1) := by decide +kernel
theorem dX5_begin_92 : decode cX5_begin 92 = .ok (.bipush 6, 2) := by decide +kernel
theorem dX5_begin_94 : decode cX5_begin 94 = .ok (.putfield 71, 3) := by decide +kernel
theorem dX5_begin_97 : decode cX5_begin 97 = .ok (.aload_n 0, 1) := by decide +kernel
theorem dX5_begin_98 : decode cX5_begin 98 = .ok (.getfield 38, 3) := by decide +kernel
theorem dX5_begin_101 : decode cX5_begin 101 = .ok (.iconst (-1), 1) := by decide +kernel
theorem dX5_begin_102 : decode cX5_begin 102 = .ok (.invokestatic 74, 3) := by decide +kernel
theorem dX5_begin_105 : decode cX5_begin 105 = .ok (.aload_n 0, 1) := by decide +kernel
theorem dX5_begin_106 : decode cX5_begin 106 = .ok (.getfield 42, 3) := by decide +kernel
theorem dX5_begin_109 : decode cX5_begin 109 = .ok (.iconst (-1), 1) := by decide +kernel
theorem dX5_begin_110 : decode cX5_begin 110 = .ok (.invokestatic 74, 3) := by decide +kernel
theorem dX5_begin_113 : decode cX5_begin 113 = .ok (.return_, 1) := by decide +kernel
def plB0 (f t : Int) : kP := (fun _ => [], fun i => if i = 0 then 1 else if i = 2 then f else if i = 3 then t else if i = 12 then 1 else if i = 13 then 2 else if i = 14 then 2 else if i = 16 then 6 else 0, fun _ => -1, fun _ => -1)
theorem sp_X5_begin {sh : gS} {M : gM} {a : Int} (hOK : gOK sh M) (hA : plSh sh a) :
    gC (gr 1 23) yX5_begin cX5_begin 1 none [(4, a)] sh M (gPm sh (fun r M1 => r = none ∧ plPost sh M a (plB0 (M a 2) (M a 3)) M1)) := by
  obtain ⟨s0, q1, q2, q3, q4, q5, q6, q7, s8, s9, s10, s11⟩ := id hA
  obtain ⟨y1, -⟩ := id q1
  obtain ⟨y2, -⟩ := id q2
  obtain ⟨y3, -⟩ := id q3
  obtain ⟨y4, -⟩ := id q4
  obtain ⟨y5, -⟩ := id q5
  obtain ⟨y6, -⟩ := id q6
  obtain ⟨y7, -⟩ := id q7
  have key : ∀ M1 : gM, gOK sh M1 → (∀ b : Int, b < a ∨ a + 23 < b → M1 b = M b) → (M1 (a + 1) 0 = 0 ∧ M1 (a + 4) 0 = 0 ∧ M1 (a + 7) 0 = 0 ∧ M1 (a + 10) 0 = 0 ∧ M1 (a + 13) 0 = 0 ∧ M1 (a + 16) 0 = 0 ∧ M1 (a + 19) 0 = 0) → (M1 a 0 = 1 ∧ M1 a 1 = 0 ∧ M1 a 2 = M a 2 ∧ M1 a 3 = M a 3 ∧ M1 a 11 = 0 ∧ M1 a 12 = 1 ∧ M1 a 13 = 2 ∧ M1 a 14 = 2 ∧ M1 a 15 = 0 ∧ M1 a 16 = 6) →
      gA (gr 1 23) yX5_begin cX5_begin 1 none (gPm sh (fun r M1 => r = none ∧ plPost sh M a (plB0 (M a 2) (M a 3)) M1)) (0, 0) 97 [(4, a)] [] sh M1 := by
    intro M1 hO1 hF1 hp hs
    obtain ⟨p1, p2, p3, p4, p5, p6, p7⟩ := hp
    obtain ⟨z0, z1, z2, z3, z11, z12, z13, z14, z15, z16⟩ := hs
    refine g_aload_n (q0 := 98) (j := 0) rfl dX5_begin_97 rfl ?_
    refine g_getp (q0 := 101) (b := a + 22) rfl ff_X5_38 dX5_begin_98 rfl hO1 (by omega) (by assumption) rfl rfl ?_
    refine g_iconst (q0 := 102) rfl dX5_begin_101 (k := ?_)
    refine g_callSm (as := [_, _]) (rest := []) mt_J7_fill_53178 ms_J7_fill_53178 ml_X5_74 dX5_begin_102 (q0 := 105) rfl rfl (sp_J7_fill hO1 s8 (by decide) (by omega)) rfl ⟨by decide, by decide⟩ (Nat.le_of_ble_eq_true rfl) ⟨Nat.zero_le _, Nat.zero_le _⟩ (fun r2 M2 hP2 hw2 hMw2 => ?_)
    obtain ⟨rfl, a1, hO2, a2⟩ := hP2
    refine g_aload_n (q0 := 106) (j := 0) rfl dX5_begin_105 rfl ?_
    refine g_getp (q0 := 109) (b := a + 23) rfl ff_X5_42 dX5_begin_106 rfl hO2 (by omega) (by assumption) rfl rfl ?_
    refine g_iconst (q0 := 110) rfl dX5_begin_109 (k := ?_)
    refine g_callSm (as := [_, _]) (rest := []) mt_J7_fill_53178 ms_J7_fill_53178 ml_X5_74 dX5_begin_110 (q0 := 113) rfl rfl (sp_J7_fill hO2 s9 (by decide) (by omega)) rfl ⟨by decide, by decide⟩ (Nat.le_of_ble_eq_true rfl) ⟨Nat.zero_le _, Nat.zero_le _⟩ (fun r3 M3 hP3 hw3 hMw3 => ?_)
    obtain ⟨rfl, b1, hO3, b2⟩ := hP3
    refine g_return dX5_begin_113 rfl ⟨Nat.zero_le _, Nat.zero_le _⟩ ?_
    have e : ∀ b : Int, b ≠ a + 22 → b ≠ a + 23 → M3 b = M1 b := fun b h1 h2 => by rw [b2 b h2, a2 b h1]
    have hq : ∀ (t : Int) (n : Nat), qSh sh t n → t ≠ a + 22 → t ≠ a + 23 → M1 t 0 = 0 → qOk sh M3 t n [] := fun t n h1 h2 h3 h4 => ⟨h1, Nat.zero_le _, by rw [e t h2 h3, h4]; rfl, rw_nil⟩
    refine ⟨rfl, rfl, ⟨hA, fun i hi => ?_, hq _ _ q7 (by omega) (by omega) p7, fun f hf => ?_, fun k k0 k1 => ⟨?_, ?_⟩⟩, hO3, fun b hb => by rw [e b (by omega) (by omega), hF1 b hb]⟩
    · have : i = 0 ∨ i = 1 ∨ i = 2 ∨ i = 3 ∨ i = 4 ∨ i = 5 := by omega
      rcases this with rfl | rfl | rfl | rfl | rfl | rfl
      · rw [show a + 1 + 3 * ((0 : Nat) : Int) = a + 1 by omega]; exact hq _ _ q1 (by omega) (by omega) p1
      · rw [show a + 1 + 3 * ((1 : Nat) : Int) = a + 4 by omega]; exact hq _ _ q2 (by omega) (by omega) p2
      · rw [show a + 1 + 3 * ((2 : Nat) : Int) = a + 7 by omega]; exact hq _ _ q3 (by omega) (by omega) p3
      · rw [show a + 1 + 3 * ((3 : Nat) : Int) = a + 10 by omega]; exact hq _ _ q4 (by omega) (by omega) p4
      · rw [show a + 1 + 3 * ((4 : Nat) : Int) = a + 13 by omega]; exact hq _ _ q5 (by omega) (by omega) p5
      · rw [show a + 1 + 3 * ((5 : Nat) : Int) = a + 16 by omega]; exact hq _ _ q6 (by omega) (by omega) p6
    · rw [e a (by omega) (by omega)]
      have : f = 0 ∨ f = 1 ∨ f = 2 ∨ f = 3 ∨ f = 11 ∨ f = 12 ∨ f = 13 ∨ f = 14 ∨ f = 15 ∨ f = 16 := by omega
      rcases this with rfl | rfl | rfl | rfl | rfl | rfl | rfl | rfl | rfl | rfl
      · exact z0
      · exact z1
      · exact z2
      · exact z3
      · exact z11
      · exact z12
      · exact z13
      · exact z14
      · exact z15
      · exact z16
    · rw [b2 _ (by omega)]; exact a1 k k0 k1
    · exact b1 k k0 k1
  refine gC_ofA (lv := [_]) (by decide +kernel) (Nat.le_of_ble_eq_true rfl) rfl (fun hMw hav => ?_)
  refine g_aload_n (q0 := 1) (j := 0) rfl dX5_begin_0 rfl ?_
  refine g_iconst (q0 := 2) rfl dX5_begin_1 (k := ?_)
  refine g_put (q0 := 5) (t := 0) (fi := 0) rfl rfl ff_X5_45 dX5_begin_2 rfl (by assumption) rfl (gfz (by omega)) ?_
  refine g_aload_n (q0 := 6) (j := 0) rfl dX5_begin_5 rfl ?_
  refine g_iconst (q0 := 7) rfl dX5_begin_6 (k := ?_)
  refine g_put (q0 := 10) (t := 0) (fi := 1) rfl rfl ff_X5_49 dX5_begin_7 rfl (by assumption) rfl (fun _ => ⟨rfl, rfl⟩) ?_
  refine g_aload_n (q0 := 11) (j := 0) rfl dX5_begin_10 rfl ?_
  refine g_getp (q0 := 14) (b := a + 1) rfl ff_X5_14 dX5_begin_11 rfl (gOK_o (gOK_o hOK (by assumption) (f := 0) rfl rfl) (by assumption) (f := 1) rfl rfl) (by omega) (by assumption) rfl rfl ?_
  refine g_iconst (q0 := 15) rfl dX5_begin_14 (k := ?_)
  refine g_put (q0 := 18) (t := 0) (fi := 0) rfl rfl ff_X5_53 dX5_begin_15 rfl (by assumption) rfl (fun _ => ⟨rfl, rfl⟩) ?_
  refine g_aload_n (q0 := 19) (j := 0) rfl dX5_begin_18 rfl ?_
  refine g_getp (q0 := 22) (b := a + 4) rfl ff_X5_20 dX5_begin_19 rfl (gOK_o (gOK_o (gOK_o hOK (by assumption) (f := 0) rfl rfl) (by assumption) (f := 1) rfl rfl) (by assumption) (f := 0) rfl rfl) (by omega) (by assumption) rfl rfl ?_
  refine g_iconst (q0 := 23) rfl dX5_begin_22 (k := ?_)
  refine g_put (q0 := 26) (t := 0) (fi := 0) rfl rfl ff_X5_53 dX5_begin_23 rfl (by assumption) rfl (fun _ => ⟨rfl, rfl⟩) ?_
  refine g_aload_n (q0 := 27) (j := 0) rfl dX5_begin_26 rfl ?_
  refine g_getp (q0 := 30) (b := a + 7) rfl ff_X5_23 dX5_begin_27 rfl (gOK_o (gOK_o (gOK_o (gOK_o hOK (by assumption) (f := 0) rfl rfl) (by assumption) (f := 1) rfl rfl) (by assumption) (f := 0) rfl rfl) (by assumption) (f := 0) rfl rfl) (by omega) (by assumption) rfl rfl ?_
  refine g_iconst (q0 := 31) rfl dX5_begin_30 (k := ?_)
  refine g_put (q0 := 34) (t := 0) (fi := 0) rfl rfl ff_X5_53 dX5_begin_31 rfl (by assumption) rfl (fun _ => ⟨rfl, rfl⟩) ?_
  refine g_aload_n (q0 := 35) (j := 0) rfl dX5_begin_34 rfl ?_
  refine g_getp (q0 := 38) (b := a + 10) rfl ff_X5_26 dX5_begin_35 rfl (gOK_o (gOK_o (gOK_o (gOK_o (gOK_o hOK (by assumption) (f := 0) rfl rfl) (by assumption) (f := 1) rfl rfl) (by assumption) (f := 0) rfl rfl) (by assumption) (f := 0) rfl rfl) (by assumption) (f := 0) rfl rfl) (by omega) (by assumption) rfl rfl ?_
  refine g_iconst (q0 := 39) rfl dX5_begin_38 (k := ?_)
  refine g_put (q0 := 42) (t := 0) (fi := 0) rfl rfl ff_X5_53 dX5_begin_39 rfl (by assumption) rfl (fun _ => ⟨rfl, rfl⟩) ?_
  refine g_aload_n (q0 := 43) (j := 0) rfl dX5_begin_42 rfl ?_
  refine g_getp (q0 := 46) (b := a + 13) rfl ff_X5_29 dX5_begin_43 rfl (gOK_o (gOK_o (gOK_o (gOK_o (gOK_o (gOK_o hOK (by assumption) (f := 0) rfl rfl) (by assumption) (f := 1) rfl rfl) (by assumption) (f := 0) rfl rfl) (by assumption) (f := 0) rfl rfl) (by assumption) (f := 0) rfl rfl) (by assumption) (f := 0) rfl rfl) (by omega) (by assumption) rfl rfl ?_
  refine g_iconst (q0 := 47) rfl dX5_begin_46 (k := ?_)
  refine g_put (q0 := 50) (t := 0) (fi := 0) rfl rfl ff_X5_53 dX5_begin_47 rfl (by assumption) rfl (fun _ => ⟨rfl, rfl⟩) ?_
  refine g_aload_n (q0 := 51) (j := 0) rfl dX5_begin_50 rfl ?_
  refine g_getp (q0 := 54) (b := a + 16) rfl ff_X5_32 dX5_begin_51 rfl (gOK_o (gOK_o (gOK_o (gOK_o (gOK_o (gOK_o (gOK_o hOK (by assumption) (f := 0) rfl rfl) (by assumption) (f := 1) rfl rfl) (by assumption) (f := 0) rfl rfl) (by assumption) (f := 0) rfl rfl) (by assumption) (f := 0) rfl rfl) (by assumption) (f := 0) rfl rfl) (by assumption) (f := 0) rfl rfl) (by omega) (by assumption) rfl rfl ?_
  refine g_iconst (q0 := 55) rfl dX5_begin_54 (k := ?_)
  refine g_put (q0 := 58) (t := 0) (fi := 0) rfl rfl ff_X5_53 dX5_begin_55 rfl (by assumption) rfl (fun _ => ⟨rfl, rfl⟩) ?_
  refine g_aload_n (q0 := 59) (j := 0) rfl dX5_begin_58 rfl ?_
  refine g_getp (q0 := 62) (b := a + 19) rfl ff_X5_35 dX5_begin_59 rfl (gOK_o (gOK_o (gOK_o (gOK_o (gOK_o (gOK_o (gOK_o (gOK_o hOK (by assumption) (f := 0) rfl rfl) (by assumption) (f := 1) rfl rfl) (by assumption) (f := 0) rfl rfl) (by assumption) (f := 0) rfl rfl) (by assumption) (f := 0) rfl rfl) (by assumption) (f := 0) rfl rfl) (by assumption) (f := 0) rfl rfl) (by assumption) (f := 0) rfl rfl) (by omega) (by assumption) rfl rfl ?_
  refine g_iconst (q0 := 63) rfl dX5_begin_62 (k := ?_)
  refine g_put (q0 := 66) (t := 0) (fi := 0) rfl rfl ff_X5_53 dX5_begin_63 rfl (by assumption) rfl (fun _ => ⟨rfl, rfl⟩) ?_
  refine g_aload_n (q0 := 67) (j := 0) rfl dX5_begin_66 rfl ?_
  refine g_iconst (q0 := 68) rfl dX5_begin_67 (k := ?_)
  refine g_put (q0 := 71) (t := 0) (fi := 11) rfl rfl ff_X5_56 dX5_begin_68 rfl (by assumption) rfl (fun _ => ⟨rfl, rfl⟩) ?_
  refine g_aload_n (q0 := 72) (j := 0) rfl dX5_begin_71 rfl ?_
  refine g_iconst (q0 := 73) rfl dX5_begin_72 (k := ?_)
  refine g_put (q0 := 76) (t := 0) (fi := 12) rfl rfl ff_X5_59 dX5_begin_73 rfl (by assumption) rfl (fun _ => ⟨rfl, rfl⟩) ?_
  refine g_aload_n (q0 := 77) (j := 0) rfl dX5_begin_76 rfl ?_
  refine g_iconst (q0 := 78) rfl dX5_begin_77 (k := ?_)
  refine g_put (q0 := 81) (t := 0) (fi := 13) rfl rfl ff_X5_62 dX5_begin_78 rfl (by assumption) rfl (fun _ => ⟨rfl, rfl⟩) ?_
  refine g_aload_n (q0 := 82) (j := 0) rfl dX5_begin_81 rfl ?_
  refine g_iconst (q0 := 83) rfl dX5_begin_82 (k := ?_)
  refine g_put (q0 := 86) (t := 0) (fi := 14) rfl rfl ff_X5_65 dX5_begin_83 rfl (by assumption) rfl (fun _ => ⟨rfl, rfl⟩) ?_
  refine g_aload_n (q0 := 87) (j := 0) rfl dX5_begin_86 rfl ?_
  refine g_iconst (q0 := 88) rfl dX5_begin_87 (k := ?_)
  refine g_put (q0 := 91) (t := 0) (fi := 15) rfl rfl ff_X5_68 dX5_begin_88 rfl (by assumption) rfl (fun _ => ⟨rfl, rfl⟩) ?_
  refine g_aload_n (q0 := 92) (j := 0) rfl dX5_begin_91 rfl ?_
  refine g_bipush (q0 := 94) rfl dX5_begin_92 (k := ?_)
  refine g_put (q0 := 97) (t := 0) (fi := 16) rfl rfl ff_X5_71 dX5_begin_94 rfl (by assumption) rfl (fun _ => ⟨rfl, rfl⟩) ?_
  refine key _ (gOK_o (f := 16) (gOK_o (f := 15) (gOK_o (f := 14) (gOK_o (f := 13) (gOK_o (f := 12) (gOK_o (f := 11) (gOK_o (f := 0) (gOK_o (f := 0) (gOK_o (f := 0) (gOK_o (f := 0) (gOK_o (f := 0) (gOK_o (f := 0) (gOK_o (f := 0) (gOK_o (f := 1) (gOK_o (f := 0) hOK s0 rfl rfl) s0 rfl rfl) y1 rfl rfl) y2 rfl rfl) y3 rfl rfl) y4 rfl rfl) y5 rfl rfl) y6 rfl rfl) y7 rfl rfl) s0 rfl rfl) s0 rfl rfl) s0 rfl rfl) s0 rfl rfl) s0 rfl rfl) s0 rfl rfl) (fun b hb => ?_) ⟨?_, ?_, ?_, ?_, ?_, ?_, ?_⟩ ⟨?_, ?_, ?_, ?_, ?_, ?_, ?_, ?_, ?_, ?_⟩
  · simp (disch := omega) only [gU_cell]
  all_goals (simp (disch := omega) only [gU_cel, gU_idx, gU_same])
