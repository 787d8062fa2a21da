-- ==== a PLAN is copied
theorem dX5_copy_0 : decode cX5_copy 0 = .ok (.aload_n 0, 1) := by decide +kernel
theorem dX5_copy_1 : decode cX5_copy 1 = .ok (.aload_n 1, 1) := by decide +kernel
theorem dX5_copy_2 : decode cX5_copy 2 = .ok (.getfield 45, 3) := by decide +kernel
theorem dX5_copy_5 : decode cX5_copy 5 = .ok (.putfield 45, 3) := by decide +kernel
theorem dX5_copy_8 : decode cX5_copy 8 = .ok (.aload_n 0, 1) := by decide +kernel
theorem dX5_copy_9 : decode cX5_copy 9 = .ok (.aload_n 1, 1) := by decide +kernel
theorem dX5_copy_10 : decode cX5_copy 10 = .ok (.getfield 49, 3) := by decide +kernel
theorem dX5_copy_13 : decode cX5_copy 13 = .ok (.putfield 49, 3) := by decide +kernel
theorem dX5_copy_16 : decode cX5_copy 16 = .ok (.aload_n 0, 1) := by decide +kernel
theorem dX5_copy_17 : decode cX5_copy 17 = .ok (.aload_n 1, 1) := by decide +kernel
theorem dX5_copy_18 : decode cX5_copy 18 = .ok (.getfield 80, 3) := by decide +kernel
theorem dX5_copy_21 : decode cX5_copy 21 = .ok (.putfield 80, 3) := by decide +kernel
theorem dX5_copy_24 : decode cX5_copy 24 = .ok (.aload_n 0, 1) := by decide +kernel
theorem dX5_copy_25 : decode cX5_copy 25 = .ok (.aload_n 1, 1) := by decide +kernel
theorem dX5_copy_26 : decode cX5_copy 26 = .ok (.getfield 83, 3) := by decide +kernel
theorem dX5_copy_29 : decode cX5_copy 29 = .ok (.putfield 83, 3) := by decide +kernel
theorem dX5_copy_32 : decode cX5_copy 32 = .ok (.aload_n 0, 1) := by decide +kernel
theorem dX5_copy_33 : decode cX5_copy 33 = .ok (.getfield 14, 3) := by decide +kernel
theorem dX5_copy_36 : decode cX5_copy 36 = .ok (.aload_n 1, 1) := by decide +kernel
theorem dX5_copy_37 : decode cX5_copy 37 = .ok (.getfield 14, 3) := by decide +kernel
theorem dX5_copy_40 : decode cX5_copy 40 = .ok (.invokevirtual 86, 3) := by decide +kernel
theorem dX5_copy_43 : decode cX5_copy 43 = .ok (.aload_n 0, 1) := by decide +kernel
theorem dX5_copy_44 : decode cX5_copy 44 = .ok (.getfield 20, 3) := by decide +kernel
theorem dX5_copy_47 : decode cX5_copy 47 = .ok (.aload_n 1, 1) := by decide +kernel
theorem dX5_copy_48 : decode cX5_copy 48 = .ok (.getfield 20, 3) := by decide +kernel
theorem dX5_copy_51 : decode cX5_copy 51 = .ok (.invokevirtual 86, 3) := by decide +kernel
theorem dX5_copy_54 : decode cX5_copy 54 = .ok (.aload_n 0, 1) := by decide +kernel
theorem dX5_copy_55 : decode cX5_copy 55 = .ok (.getfield 23, 3) := by decide +kernel
theorem dX5_copy_58 : decode cX5_copy 58 = .ok (.aload_n 1, 1) := by decide +kernel
theorem dX5_copy_59 : decode cX5_copy 59 = .ok (.getfield 23, 3) := by decide +kernel
theorem dX5_copy_62 : decode cX5_copy 62 = .ok (.invokevirtual 86, 3) := by decide +kernel
theorem dX5_copy_65 : decode cX5_copy 65 = .ok (.aload_n 0, 1) := by decide +kernel
theorem dX5_copy_66 : decode cX5_copy 66 = .ok (.getfield 26, 3) := by decide +kernel
theorem dX5_copy_69 : decode cX5_copy 69 = .ok (.aload_n 1, 1) := by decide +kernel
theorem dX5_copy_70 : decode cX5_copy 70 = .ok (.getfield 26, 3) := by decide +kernel
theorem dX5_copy_73 : decode cX5_copy 73 = .ok (.invokevirtual 86, 3) := by decide +kernel
theorem dX5_copy_76 : decode cX5_copy 76 = .ok (.aload_n 0, 1) := by decide +kernel
theorem dX5_copy_77 : decode cX5_copy 77 = .ok (.getfield 29, 3) := by decide +kernel
theorem dX5_copy_80 : decode cX5_copy 80 = .ok (.aload_n 1, 1) := by decide +kernel
theorem dX5_copy_81 : decode cX5_copy 81 = .ok (.getfield 29, 3) := by decide +kernel
theorem dX5_copy_84 : decode cX5_copy 84 = .ok (.invokevirtual 86, 3) := by decide +kernel
theorem dX5_copy_87 : decode cX5_copy 87 = .ok (.aload_n 0, 1) := by decide +kernel
theorem dX5_copy_88 : decode cX5_copy 88 = .ok (.getfield 32, 3) := by decide +kernel
theorem dX5_copy_91 : decode cX5_copy 91 = .ok (.aload_n 1, 1) := by decide +kernel
theorem dX5_copy_92 : decode cX5_copy 92 = .ok (.getfield 32, 3) := by decide +kernel
theorem dX5_copy_95 : decode cX5_copy 95 = .ok (.invokevirtual 86, 3) := by decide +kernel
theorem dX5_copy_98 : decode cX5_copy 98 = .ok (.aload_n 0, 1) := by decide +kernel
theorem dX5_copy_99 : decode cX5_copy 99 = .ok (.getfield 35, 3) := by decide +kernel
theorem dX5_copy_102 : decode cX5_copy 102 = .ok (.aload_n 1, 1) := by decide +kernel
theorem dX5_copy_103 : decode cX5_copy 103 = .ok (.getfield 35, 3) := by decide +kernel
theorem dX5_copy_106 : decode cX5_copy 106 = .ok (.invokevirtual 86, 3) := by decide +kernel
theorem dX5_copy_109 : decode cX5_copy 109 = .ok (.aload_n 0, 1) := by decide +kernel
theorem dX5_copy_110 : decode cX5_copy 110 = .ok (.aload_n 1, 1) := by decide +kernel
theorem dX5_copy_111 : decode cX5_copy 111 = .ok (.getfield 56, 3) := by decide +kernel
theorem dX5_copy_114 : decode cX5_copy 114 = .ok (.putfield 56, 3) := by decide +kernel
theorem dX5_copy_117 : decode cX5_copy 117 = .ok (.aload_n 0, 1) := by decide +kernel
theorem dX5_copy_118 : decode cX5_copy 118 = .ok (.aload_n 1, 1) := by decide +kernel
theorem dX5_copy_119 : decode cX5_copy 119 = .ok (.getfield 59, 3) := by decide +kernel
theorem dX5_copy_122 : decode cX5_copy 122 = .ok (.putfield 59, 3) := by decide +kernel
theorem dX5_copy_125 : decode cX5_copy 125 = .ok (.aload_n 0, 1) := by decide +kernel
theorem dX5_copy_126 : decode cX5_copy 126 = .ok (.aload_n 1, 1) := by decide +kernel
theorem dX5_copy_127 : decode cX5_copy 127 = .ok (.getfield 62, 3) := by decide +kernel
theorem dX5_copy_130 : decode cX5_copy 130 = .ok (.putfield 62, 3) := by decide +kernel
theorem dX5_copy_133 : decode cX5_copy 133 = .ok (.aload_n 0, 1) := by decide +kernel
theorem dX5_copy_134 : decode cX5_copy 134 = .ok (.aload_n 1, 1) := by decide +kernel
theorem dX5_copy_135 : decode cX5_copy 135 = .ok (.getfield 65, 3) := by decide +kernel
theorem dX5_copy_138 : decode cX5_copy 138 = .ok (.putfield 65, 3) := by decide +kernel
theorem dX5_copy_141 : decode cX5_copy 141 = .ok (.aload_n 0, 1) := by decide +kernel
theorem dX5_copy_142 : decode cX5_copy 142 = .ok (.aload_n 1, 1) := by decide +kernel
theorem dX5_copy_143 : decode cX5_copy 143 = .ok (.getfield 68, 3) := by decide +kernel
theorem dX5_copy_146 : decode cX5_copy 146 = .ok (.putfield 68, 3) := by decide +kernel
theorem dX5_copy_149 : decode cX5_copy 149 = .ok (.aload_n 0, 1) := by decide +kernel
theorem dX5_copy_150 : decode cX5_copy 150 = .ok (.aload_n 1, 1) := by decide +kernel
theorem dX5_copy_151 : decode cX5_copy 151 = .ok (.getfield 71, 3) := by decide +kernel
theorem dX5_copy_154 : decode cX5_copy 154 = .ok (.putfield 71, 3) := by decide +kernel
theorem dX5_copy_157 : decode cX5_copy 157 = .ok (.aload_n 0, 1) := by decide +kernel
theorem dX5_copy_158 : decode cX5_copy 158 = .ok (.aload_n 1, 1) := by decide +kernel
theorem dX5_copy_159 : decode cX5_copy 159 = .ok (.getfield 38, 3) := by decide +kernel
theorem dX5_copy_162 : decode cX5_copy 162 = .ok (.aload_n 1, 1) := by decide +kernel
theorem dX5_copy_163 : decode cX5_copy 163 = .ok (.getfield 42, 3) := by decide +kernel
theorem dX5_copy_166 : decode cX5_copy 166 = .ok (.invokevirtual 90, 3) := by decide +kernel
theorem dX5_copy_169 : decode cX5_copy 169 = .ok (.return_, 1) := by decide +kernel
def plN (i : Nat) : Nat := if i = 6 then 10 else 4
theorem qOk_congr {sh : gS} {M M1 : gM} {t : Int} {n : Nat} {ps : List (Int × Int)} (h : qOk sh M t n ps) (h0 : M1 t = M t) (h1 : M1 (t + 1) = M (t + 1)) (h2 : M1 (t + 2) = M (t + 2)) : qOk sh M1 t n ps := by
  obtain ⟨a, b, c, d⟩ := h
  refine ⟨a, b, by rw [h0]; exact c, rw_congr d (fun q _ _ => ?_)⟩
  unfold qG
  rw [h1, h2]
/-- the first j pairs are those of the plan -/
def plC (sh : gS) (M : gM) (a : Int) (pl : kP) (j : Nat) (M1 : gM) : Prop :=
  (∀ i : Nat, i < j → qOk sh M1 (a + 1 + 3 * (i : Int)) (plN i) (pl.1 i)) ∧ gOK sh M1 ∧ (∀ b : Int, b < a ∨ a + 23 < b → M1 b = M b) ∧ ∀ f : Nat, f < 4 → M1 a (f : Int) = pl.2.1 f
theorem plC_step {sh : gS} {M M1 M2 : gM} {a t : Int} {pl : kP} {j : Nat} (h : plC sh M a pl j M1) (ht : t = a + 1 + 3 * (j : Int)) (hj : j < 7) (hq : qPost sh M1 t (plN j) (pl.1 j) M2) : plC sh M a pl (j + 1) M2 := by
  obtain ⟨h1, h2, h3, h4⟩ := h
  obtain ⟨q1, q2, q3⟩ := hq
  refine ⟨fun i hi => ?_, q2, fun b hb => by rw [q3 b (by omega) (by omega) (by omega), h3 b hb], fun f hf => by rw [q3 a (by omega) (by omega) (by omega)]; exact h4 f hf⟩
  by_cases he : i = j
  · subst he
    rw [← ht]
    exact q1
  · exact qOk_congr (h1 i (by omega)) (q3 _ (by omega) (by omega) (by omega)) (q3 _ (by omega) (by omega) (by omega)) (q3 _ (by omega) (by omega) (by omega))
theorem plP {sh : gS} {M : gM} {a : Int} {pl : kP} (hP : plOk sh M a pl) {i : Nat} {t : Int} (hi : i < 6) (ht : t = a + 1 + 3 * (i : Int)) : qOk sh M t 4 (pl.1 i) := by
  rw [ht]; exact hP.2.1 i hi
def plPost (sh : gS) (M : gM) (a : Int) (pl : kP) (M1 : gM) : Prop := plOk sh M1 a pl ∧ gOK sh M1 ∧ ∀ b : Int, b < a ∨ a + 23 < b → M1 b = M b
theorem sp_X5_copy {sh : gS} {M : gM} {a u : Int} {pl : kP} (hOK : gOK sh M) (hA : plSh sh a) (hU : plOk sh M u pl) (hau : a + 23 < u ∨ u + 23 < a) (h01 : pl.2.1 0 = 0 ∨ pl.2.1 0 = 1) :
    gC (gr 2 90) yX5_copy cX5_copy 2 none [(4, a), (4, u)] sh M (gPm sh (fun r M1 => r = none ∧ plPost sh M a pl M1)) := by
  obtain ⟨s0, q1, q2, q3, q4, q5, q6, q7, s8, s9, s10, s11⟩ := id hA
  obtain ⟨r0, x1, x2, x3, x4, x5, x6, x7, r8, r9, r10, r11⟩ := id hU.1
  obtain ⟨u0, u1, u2, u3, u4⟩ := id hU
  have k0 := u3 0 (by decide)
  have k1 := u3 1 (by decide)
  have k2 := u3 2 (by decide)
  have k3 := u3 3 (by decide)
  have k01 : M u 0 = 0 ∨ M u 0 = 1 := by
    have : M u 0 = pl.2.1 0 := k0
    rw [this]; exact h01
  obtain ⟨y1, -⟩ := id q1
  obtain ⟨y2, -⟩ := id q2
  obtain ⟨y3, -⟩ := id q3
  obtain ⟨y4, -⟩ := id q4
  obtain ⟨y5, -⟩ := id q5
  obtain ⟨y6, -⟩ := id q6
  obtain ⟨y7, -⟩ := id q7
  refine gC_ofA (lv := [_, _]) (by decide +kernel) (Nat.le_of_ble_eq_true rfl) rfl (fun hMw hav => ?_)
  refine g_aload_n (q0 := 1) (j := 0) rfl dX5_copy_0 rfl ?_
  refine g_aload_n (q0 := 2) (j := 1) rfl dX5_copy_1 rfl ?_
  refine g_getf (q0 := 5) (t := 0) (fi := 0) rfl rfl ff_X5_45 dX5_copy_2 rfl (by assumption) ?_
  refine g_put (q0 := 8) (t := 0) (fi := 0) rfl rfl ff_X5_45 dX5_copy_5 rfl (by assumption) rfl (gfz (by omega)) ?_
  refine g_aload_n (q0 := 9) (j := 0) rfl dX5_copy_8 rfl ?_
  refine g_aload_n (q0 := 10) (j := 1) rfl dX5_copy_9 rfl ?_
  refine g_getf (q0 := 13) (t := 0) (fi := 1) rfl rfl ff_X5_49 dX5_copy_10 rfl (by assumption) ?_
  try simp (disch := omega) only [gU_same, gU_idx, gU_cel]
  refine g_put (q0 := 16) (t := 0) (fi := 1) rfl rfl ff_X5_49 dX5_copy_13 rfl (by assumption) rfl (fun _ => ⟨rfl, rfl⟩) ?_
  refine g_aload_n (q0 := 17) (j := 0) rfl dX5_copy_16 rfl ?_
  refine g_aload_n (q0 := 18) (j := 1) rfl dX5_copy_17 rfl ?_
  refine g_getf (q0 := 21) (t := 0) (fi := 2) rfl rfl ff_X5_80 dX5_copy_18 rfl (by assumption) ?_
  try simp (disch := omega) only [gU_same, gU_idx, gU_cel]
  refine g_put (q0 := 24) (t := 0) (fi := 2) rfl rfl ff_X5_80 dX5_copy_21 rfl (by assumption) rfl (fun _ => ⟨rfl, rfl⟩) ?_
  refine g_aload_n (q0 := 25) (j := 0) rfl dX5_copy_24 rfl ?_
  refine g_aload_n (q0 := 26) (j := 1) rfl dX5_copy_25 rfl ?_
  refine g_getf (q0 := 29) (t := 0) (fi := 3) rfl rfl ff_X5_83 dX5_copy_26 rfl (by assumption) ?_
  try simp (disch := omega) only [gU_same, gU_idx, gU_cel]
  refine g_put (q0 := 32) (t := 0) (fi := 3) rfl rfl ff_X5_83 dX5_copy_29 rfl (by assumption) rfl (fun _ => ⟨rfl, rfl⟩) ?_
  generalize hN : gU (gU (gU (gU M a 0 (M u 0)) a 1 (M u 1)) a 2 (M u 2)) a 3 (M u 3) = N0
  have hO0 : gOK sh N0 := by rw [← hN]; exact gOK_o (f := 3) (gOK_o (f := 2) (gOK_o (f := 1) (gOK_o (f := 0) hOK s0 rfl rfl) s0 rfl rfl) s0 rfl rfl) s0 rfl rfl
  have c0 : plC sh M a pl 0 N0 := by
    refine ⟨fun i hi => by omega, hO0, fun b hb => by rw [← hN]; simp (disch := omega) only [gU_cell], fun f hf => ?_⟩
    have hf4 : f = 0 ∨ f = 1 ∨ f = 2 ∨ f = 3 := by omega
    rw [← hN]
    rcases hf4 with rfl | rfl | rfl | rfl
    · rw [← k0]; simp [gU]
    · rw [← k1]; simp [gU]
    · rw [← k2]; simp [gU]
    · rw [← k3]; simp [gU]
  clear hN
  refine g_aload_n (q0 := 33) (j := 0) rfl dX5_copy_32 rfl ?_
  refine g_getp (q0 := 36) (b := a + 1) rfl ff_X5_14 dX5_copy_33 rfl hO0 (by omega) (by assumption) rfl rfl ?_
  refine g_aload_n (q0 := 37) (j := 1) rfl dX5_copy_36 rfl ?_
  refine g_getp (q0 := 40) (b := u + 1) rfl ff_X5_14 dX5_copy_37 rfl hO0 (by omega) (by assumption) rfl rfl ?_
  have v0 : qOk sh N0 (u + 1) 4 (pl.1 0) := qOk_congr (plP hU (i := 0) (by decide) (by omega)) (c0.2.2.1 _ (by omega)) (c0.2.2.1 _ (by omega)) (c0.2.2.1 _ (by omega))
  refine g_callVm (as := [_]) (rest := []) mt_X4_copy mi_X4_copy se_X4_copy ml_X5_86 dX5_copy_40 (q0 := 43) rfl rfl (by assumption) rfl rfl (sp_X4_copy hO0 q1 v0 v0.2.1 (by omega)) rfl ⟨by decide, by decide⟩ (Nat.le_of_ble_eq_true rfl) ⟨Nat.zero_le _, Nat.zero_le _⟩ (fun r01 N1 hPP hw0 hMw0 => ?_)
  obtain ⟨rfl, hPP⟩ := hPP
  have c1 := plC_step (j := 0) c0 (by omega) (by decide) hPP
  have hO1 := c1.2.1
  clear hPP v0 c0 hO0
  refine g_aload_n (q0 := 44) (j := 0) rfl dX5_copy_43 rfl ?_
  refine g_getp (q0 := 47) (b := a + 4) rfl ff_X5_20 dX5_copy_44 rfl hO1 (by omega) (by assumption) rfl rfl ?_
  refine g_aload_n (q0 := 48) (j := 1) rfl dX5_copy_47 rfl ?_
  refine g_getp (q0 := 51) (b := u + 4) rfl ff_X5_20 dX5_copy_48 rfl hO1 (by omega) (by assumption) rfl rfl ?_
  have v1 : qOk sh N1 (u + 4) 4 (pl.1 1) := qOk_congr (plP hU (i := 1) (by decide) (by omega)) (c1.2.2.1 _ (by omega)) (c1.2.2.1 _ (by omega)) (c1.2.2.1 _ (by omega))
  refine g_callVm (as := [_]) (rest := []) mt_X4_copy mi_X4_copy se_X4_copy ml_X5_86 dX5_copy_51 (q0 := 54) rfl rfl (by assumption) rfl rfl (sp_X4_copy hO1 q2 v1 v1.2.1 (by omega)) rfl ⟨by decide, by decide⟩ (Nat.le_of_ble_eq_true rfl) ⟨Nat.zero_le _, Nat.zero_le _⟩ (fun r11 N2 hPP hw1 hMw1 => ?_)
  obtain ⟨rfl, hPP⟩ := hPP
  have c2 := plC_step (j := 1) c1 (by omega) (by decide) hPP
  have hO2 := c2.2.1
  clear hPP v1 c1 hO1
  refine g_aload_n (q0 := 55) (j := 0) rfl dX5_copy_54 rfl ?_
  refine g_getp (q0 := 58) (b := a + 7) rfl ff_X5_23 dX5_copy_55 rfl hO2 (by omega) (by assumption) rfl rfl ?_
  refine g_aload_n (q0 := 59) (j := 1) rfl dX5_copy_58 rfl ?_
  refine g_getp (q0 := 62) (b := u + 7) rfl ff_X5_23 dX5_copy_59 rfl hO2 (by omega) (by assumption) rfl rfl ?_
  have v2 : qOk sh N2 (u + 7) 4 (pl.1 2) := qOk_congr (plP hU (i := 2) (by decide) (by omega)) (c2.2.2.1 _ (by omega)) (c2.2.2.1 _ (by omega)) (c2.2.2.1 _ (by omega))
  refine g_callVm (as := [_]) (rest := []) mt_X4_copy mi_X4_copy se_X4_copy ml_X5_86 dX5_copy_62 (q0 := 65) rfl rfl (by assumption) rfl rfl (sp_X4_copy hO2 q3 v2 v2.2.1 (by omega)) rfl ⟨by decide, by decide⟩ (Nat.le_of_ble_eq_true rfl) ⟨Nat.zero_le _, Nat.zero_le _⟩ (fun r21 N3 hPP hw2 hMw2 => ?_)
  obtain ⟨rfl, hPP⟩ := hPP
  have c3 := plC_step (j := 2) c2 (by omega) (by decide) hPP
  have hO3 := c3.2.1
  clear hPP v2 c2 hO2
  refine g_aload_n (q0 := 66) (j := 0) rfl dX5_copy_65 rfl ?_
  refine g_getp (q0 := 69) (b := a + 10) rfl ff_X5_26 dX5_copy_66 rfl hO3 (by omega) (by assumption) rfl rfl ?_
  refine g_aload_n (q0 := 70) (j := 1) rfl dX5_copy_69 rfl ?_
  refine g_getp (q0 := 73) (b := u + 10) rfl ff_X5_26 dX5_copy_70 rfl hO3 (by omega) (by assumption) rfl rfl ?_
  have v3 : qOk sh N3 (u + 10) 4 (pl.1 3) := qOk_congr (plP hU (i := 3) (by decide) (by omega)) (c3.2.2.1 _ (by omega)) (c3.2.2.1 _ (by omega)) (c3.2.2.1 _ (by omega))
  refine g_callVm (as := [_]) (rest := []) mt_X4_copy mi_X4_copy se_X4_copy ml_X5_86 dX5_copy_73 (q0 := 76) rfl rfl (by assumption) rfl rfl (sp_X4_copy hO3 q4 v3 v3.2.1 (by omega)) rfl ⟨by decide, by decide⟩ (Nat.le_of_ble_eq_true rfl) ⟨Nat.zero_le _, Nat.zero_le _⟩ (fun r31 N4 hPP hw3 hMw3 => ?_)
  obtain ⟨rfl, hPP⟩ := hPP
  have c4 := plC_step (j := 3) c3 (by omega) (by decide) hPP
  have hO4 := c4.2.1
  clear hPP v3 c3 hO3
  refine g_aload_n (q0 := 77) (j := 0) rfl dX5_copy_76 rfl ?_
  refine g_getp (q0 := 80) (b := a + 13) rfl ff_X5_29 dX5_copy_77 rfl hO4 (by omega) (by assumption) rfl rfl ?_
  refine g_aload_n (q0 := 81) (j := 1) rfl dX5_copy_80 rfl ?_
  refine g_getp (q0 := 84) (b := u + 13) rfl ff_X5_29 dX5_copy_81 rfl hO4 (by omega) (by assumption) rfl rfl ?_
  have v4 : qOk sh N4 (u + 13) 4 (pl.1 4) := qOk_congr (plP hU (i := 4) (by decide) (by omega)) (c4.2.2.1 _ (by omega)) (c4.2.2.1 _ (by omega)) (c4.2.2.1 _ (by omega))
  refine g_callVm (as := [_]) (rest := []) mt_X4_copy mi_X4_copy se_X4_copy ml_X5_86 dX5_copy_84 (q0 := 87) rfl rfl (by assumption) rfl rfl (sp_X4_copy hO4 q5 v4 v4.2.1 (by omega)) rfl ⟨by decide, by decide⟩ (Nat.le_of_ble_eq_true rfl) ⟨Nat.zero_le _, Nat.zero_le _⟩ (fun r41 N5 hPP hw4 hMw4 => ?_)
  obtain ⟨rfl, hPP⟩ := hPP
  have c5 := plC_step (j := 4) c4 (by omega) (by decide) hPP
  have hO5 := c5.2.1
  clear hPP v4 c4 hO4
  refine g_aload_n (q0 := 88) (j := 0) rfl dX5_copy_87 rfl ?_
  refine g_getp (q0 := 91) (b := a + 16) rfl ff_X5_32 dX5_copy_88 rfl hO5 (by omega) (by assumption) rfl rfl ?_
  refine g_aload_n (q0 := 92) (j := 1) rfl dX5_copy_91 rfl ?_
  refine g_getp (q0 := 95) (b := u + 16) rfl ff_X5_32 dX5_copy_92 rfl hO5 (by omega) (by assumption) rfl rfl ?_
  have v5 : qOk sh N5 (u + 16) 4 (pl.1 5) := qOk_congr (plP hU (i := 5) (by decide) (by omega)) (c5.2.2.1 _ (by omega)) (c5.2.2.1 _ (by omega)) (c5.2.2.1 _ (by omega))
  refine g_callVm (as := [_]) (rest := []) mt_X4_copy mi_X4_copy se_X4_copy ml_X5_86 dX5_copy_95 (q0 := 98) rfl rfl (by assumption) rfl rfl (sp_X4_copy hO5 q6 v5 v5.2.1 (by omega)) rfl ⟨by decide, by decide⟩ (Nat.le_of_ble_eq_true rfl) ⟨Nat.zero_le _, Nat.zero_le _⟩ (fun r51 N6 hPP hw5 hMw5 => ?_)
  obtain ⟨rfl, hPP⟩ := hPP
  have c6 := plC_step (j := 5) c5 (by omega) (by decide) hPP
  have hO6 := c6.2.1
  clear hPP v5 c5 hO5
  refine g_aload_n (q0 := 99) (j := 0) rfl dX5_copy_98 rfl ?_
  refine g_getp (q0 := 102) (b := a + 19) rfl ff_X5_35 dX5_copy_99 rfl hO6 (by omega) (by assumption) rfl rfl ?_
  refine g_aload_n (q0 := 103) (j := 1) rfl dX5_copy_102 rfl ?_
  refine g_getp (q0 := 106) (b := u + 19) rfl ff_X5_35 dX5_copy_103 rfl hO6 (by omega) (by assumption) rfl rfl ?_
  have v6 : qOk sh N6 (u + 19) 10 (pl.1 6) := qOk_congr u2 (c6.2.2.1 _ (by omega)) (c6.2.2.1 _ (by omega)) (c6.2.2.1 _ (by omega))
  refine g_callVm (as := [_]) (rest := []) mt_X4_copy mi_X4_copy se_X4_copy ml_X5_86 dX5_copy_106 (q0 := 109) rfl rfl (by assumption) rfl rfl (sp_X4_copy hO6 q7 v6 v6.2.1 (by omega)) rfl ⟨by decide, by decide⟩ (Nat.le_of_ble_eq_true rfl) ⟨Nat.zero_le _, Nat.zero_le _⟩ (fun r61 N7 hPP hw6 hMw6 => ?_)
  obtain ⟨rfl, hPP⟩ := hPP
  have c7 := plC_step (j := 6) c6 (by omega) (by decide) hPP
  have hO7 := c7.2.1
  clear hPP v6 c6 hO6
  have f11 := u3 11 (by decide)
  have f12 := u3 12 (by decide)
  have f13 := u3 13 (by decide)
  have f14 := u3 14 (by decide)
  have f15 := u3 15 (by decide)
  have f16 := u3 16 (by decide)
  have eu : N7 u = M u := c7.2.2.1 u (by omega)
  refine g_aload_n (q0 := 110) (j := 0) rfl dX5_copy_109 rfl ?_
  refine g_aload_n (q0 := 111) (j := 1) rfl dX5_copy_110 rfl ?_
  refine g_getf (q0 := 114) (t := 0) (fi := 11) rfl rfl ff_X5_56 dX5_copy_111 rfl (by assumption) ?_
  refine g_put (q0 := 117) (t := 0) (fi := 11) rfl rfl ff_X5_56 dX5_copy_114 rfl (by assumption) rfl (fun _ => ⟨rfl, rfl⟩) ?_
  refine g_aload_n (q0 := 118) (j := 0) rfl dX5_copy_117 rfl ?_
  refine g_aload_n (q0 := 119) (j := 1) rfl dX5_copy_118 rfl ?_
  refine g_getf (q0 := 122) (t := 0) (fi := 12) rfl rfl ff_X5_59 dX5_copy_119 rfl (by assumption) ?_
  try simp (disch := omega) only [gU_same, gU_idx, gU_cel]
  refine g_put (q0 := 125) (t := 0) (fi := 12) rfl rfl ff_X5_59 dX5_copy_122 rfl (by assumption) rfl (fun _ => ⟨rfl, rfl⟩) ?_
  refine g_aload_n (q0 := 126) (j := 0) rfl dX5_copy_125 rfl ?_
  refine g_aload_n (q0 := 127) (j := 1) rfl dX5_copy_126 rfl ?_
  refine g_getf (q0 := 130) (t := 0) (fi := 13) rfl rfl ff_X5_62 dX5_copy_127 rfl (by assumption) ?_
  try simp (disch := omega) only [gU_same, gU_idx, gU_cel]
  refine g_put (q0 := 133) (t := 0) (fi := 13) rfl rfl ff_X5_62 dX5_copy_130 rfl (by assumption) rfl (fun _ => ⟨rfl, rfl⟩) ?_
  refine g_aload_n (q0 := 134) (j := 0) rfl dX5_copy_133 rfl ?_
  refine g_aload_n (q0 := 135) (j := 1) rfl dX5_copy_134 rfl ?_
  refine g_getf (q0 := 138) (t := 0) (fi := 14) rfl rfl ff_X5_65 dX5_copy_135 rfl (by assumption) ?_
  try simp (disch := omega) only [gU_same, gU_idx, gU_cel]
  refine g_put (q0 := 141) (t := 0) (fi := 14) rfl rfl ff_X5_65 dX5_copy_138 rfl (by assumption) rfl (fun _ => ⟨rfl, rfl⟩) ?_
  refine g_aload_n (q0 := 142) (j := 0) rfl dX5_copy_141 rfl ?_
  refine g_aload_n (q0 := 143) (j := 1) rfl dX5_copy_142 rfl ?_
  refine g_getf (q0 := 146) (t := 0) (fi := 15) rfl rfl ff_X5_68 dX5_copy_143 rfl (by assumption) ?_
  try simp (disch := omega) only [gU_same, gU_idx, gU_cel]
  refine g_put (q0 := 149) (t := 0) (fi := 15) rfl rfl ff_X5_68 dX5_copy_146 rfl (by assumption) rfl (fun _ => ⟨rfl, rfl⟩) ?_
  refine g_aload_n (q0 := 150) (j := 0) rfl dX5_copy_149 rfl ?_
  refine g_aload_n (q0 := 151) (j := 1) rfl dX5_copy_150 rfl ?_
  refine g_getf (q0 := 154) (t := 0) (fi := 16) rfl rfl ff_X5_71 dX5_copy_151 rfl (by assumption) ?_
  try simp (disch := omega) only [gU_same, gU_idx, gU_cel]
  refine g_put (q0 := 157) (t := 0) (fi := 16) rfl rfl ff_X5_71 dX5_copy_154 rfl (by assumption) rfl (fun _ => ⟨rfl, rfl⟩) ?_
  refine g_aload_n (q0 := 158) (j := 0) rfl dX5_copy_157 rfl ?_
  refine g_aload_n (q0 := 159) (j := 1) rfl dX5_copy_158 rfl ?_
  refine g_getp (q0 := 162) (b := u + 22) rfl ff_X5_38 dX5_copy_159 rfl (gOK_o (gOK_o (gOK_o (gOK_o (gOK_o (gOK_o hO7 (by assumption) (f := 11) rfl rfl) (by assumption) (f := 12) rfl rfl) (by assumption) (f := 13) rfl rfl) (by assumption) (f := 14) rfl rfl) (by assumption) (f := 15) rfl rfl) (by assumption) (f := 16) rfl rfl) (by omega) (by assumption) rfl rfl ?_
  refine g_aload_n (q0 := 163) (j := 1) rfl dX5_copy_162 rfl ?_
  refine g_getp (q0 := 166) (b := u + 23) rfl ff_X5_42 dX5_copy_163 rfl (gOK_o (gOK_o (gOK_o (gOK_o (gOK_o (gOK_o hO7 (by assumption) (f := 11) rfl rfl) (by assumption) (f := 12) rfl rfl) (by assumption) (f := 13) rfl rfl) (by assumption) (f := 14) rfl rfl) (by assumption) (f := 15) rfl rfl) (by assumption) (f := 16) rfl rfl) (by omega) (by assumption) rfl rfl ?_
  rw [eu]
  generalize hN8 : gU (gU (gU (gU (gU (gU N7 a 11 (M u 11)) a 12 (M u 12)) a 13 (M u 13)) a 14 (M u 14)) a 15 (M u 15)) a 16 (M u 16) = N8
  have hO8 : gOK sh N8 := by rw [← hN8]; exact gOK_o (f := 16) (gOK_o (f := 15) (gOK_o (f := 14) (gOK_o (f := 13) (gOK_o (f := 12) (gOK_o (f := 11) hO7 s0 rfl rfl) s0 rfl rfl) s0 rfl rfl) s0 rfl rfl) s0 rfl rfl) s0 rfl rfl
  have g8 : ∀ b : Int, b ≠ a → N8 b = N7 b := fun b hb => by rw [← hN8]; simp only [gU_cell _ _ _ hb]
  have g9 : ∀ f : Nat, f < 4 ∨ (10 < f ∧ f < 17) → N8 a (f : Int) = pl.2.1 f := by
    intro f hf
    rw [← hN8]
    have hf4 : f < 4 ∨ f = 11 ∨ f = 12 ∨ f = 13 ∨ f = 14 ∨ f = 15 ∨ f = 16 := by omega
    rcases hf4 with z | rfl | rfl | rfl | rfl | rfl | rfl
    · rw [gU_idx (by omega), gU_idx (by omega), gU_idx (by omega), gU_idx (by omega), gU_idx (by omega), gU_idx (by omega)]; exact c7.2.2.2 f z
    · rw [← f11]; simp [gU]
    · rw [← f12]; simp [gU]
    · rw [← f13]; simp [gU]
    · rw [← f14]; simp [gU]
    · rw [← f15]; simp [gU]
    · rw [← f16]; simp [gU]
  clear hN8
  refine g_callVm (as := [_, _]) (rest := []) mt_X5_takeMap mi_X5_takeMap se_X5_takeMap ml_X5_90 dX5_copy_166 (q0 := 169) rfl rfl (by assumption) rfl rfl (sp_X5_takeMap hO8 hA r8 r9 (by omega)) rfl ⟨by decide, by decide⟩ (Nat.le_of_ble_eq_true rfl) ⟨Nat.zero_le _, Nat.zero_le _⟩ (fun r91 N9 hP9 hw9 hMw9 => ?_)
  obtain ⟨rfl, m1, hO9, m2⟩ := hP9
  refine g_return dX5_copy_169 rfl ⟨Nat.zero_le _, Nat.zero_le _⟩ ?_
  refine ⟨rfl, rfl, ⟨hA, fun i hi => ?_, ?_, fun f hf => by rw [m2 a (by omega) (by omega)]; exact g9 f hf, fun k k0 k1 => ?_⟩, hO9, fun b hb => by rw [m2 b (by omega) (by omega), g8 b (by omega), c7.2.2.1 b hb]⟩
  · have := c7.1 i (by omega)
    rw [plN, if_neg (by omega)] at this
    exact qOk_congr this (by rw [m2 _ (by omega) (by omega), g8 _ (by omega)]) (by rw [m2 _ (by omega) (by omega), g8 _ (by omega)]) (by rw [m2 _ (by omega) (by omega), g8 _ (by omega)])
  · have := c7.1 6 (by decide)
    rw [show a + 1 + 3 * ((6 : Nat) : Int) = a + 19 by omega] at this
    exact qOk_congr this (by rw [m2 _ (by omega) (by omega), g8 _ (by omega)]) (by rw [m2 _ (by omega) (by omega), g8 _ (by omega)]) (by rw [m2 _ (by omega) (by omega), g8 _ (by omega)])
  · rw [(m1 k k0 k1).1, (m1 k k0 k1).2, g8 _ (by omega), g8 _ (by omega), c7.2.2.1 _ (by omega), c7.2.2.1 _ (by omega)]
    exact u4 k k0 k1
