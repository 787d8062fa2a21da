-- ==== a RUN begins
theorem dX8_begin_0 : decode cX8_begin 0 = .ok (.aload_n 0, 1) := by decide +kernel
theorem dX8_begin_1 : decode cX8_begin 1 = .ok (.aload_n 1, 1) := by decide +kernel
theorem dX8_begin_2 : decode cX8_begin 2 = .ok (.aload_n 2, 1) := by decide +kernel
theorem dX8_begin_3 : decode cX8_begin 3 = .ok (.invokevirtual 90, 3) := by decide +kernel
theorem dX8_begin_6 : decode cX8_begin 6 = .ok (.iload_n 3, 1) := by decide +kernel
theorem dX8_begin_7 : decode cX8_begin 7 = .ok (.ifCond .eq 22, 3) := by decide +kernel
theorem dX8_begin_10 : decode cX8_begin 10 = .ok (.aload_n 0, 1) := by decide +kernel
theorem dX8_begin_11 : decode cX8_begin 11 = .ok (.getfield 37, 3) := by decide +kernel
theorem dX8_begin_14 : decode cX8_begin 14 = .ok (.iconst (-1), 1) := by decide +kernel
theorem dX8_begin_15 : decode cX8_begin 15 = .ok (.invokestatic 94, 3) := by decide +kernel
theorem dX8_begin_18 : decode cX8_begin 18 = .ok (.aload_n 0, 1) := by decide +kernel
theorem dX8_begin_19 : decode cX8_begin 19 = .ok (.getfield 41, 3) := by decide +kernel
theorem dX8_begin_22 : decode cX8_begin 22 = .ok (.iconst (-1), 1) := by decide +kernel
theorem dX8_begin_23 : decode cX8_begin 23 = .ok (.invokestatic 94, 3) := by decide +kernel
theorem dX8_begin_26 : decode cX8_begin 26 = .ok (.goto 33, 3) := by decide +kernel
theorem dX8_begin_29 : decode cX8_begin 29 = .ok (.aload_n 1, 1) := by decide +kernel
theorem dX8_begin_30 : decode cX8_begin 30 = .ok (.getfield 100, 3) := by decide +kernel
theorem dX8_begin_33 : decode cX8_begin 33 = .ok (.iconst 0, 1) := by decide +kernel
theorem dX8_begin_34 : decode cX8_begin 34 = .ok (.aload_n 0, 1) := by decide +kernel
theorem dX8_begin_35 : decode cX8_begin 35 = .ok (.getfield 37, 3) := by decide +kernel
theorem dX8_begin_38 : decode cX8_begin 38 = .ok (.iconst 0, 1) := by decide +kernel
theorem dX8_begin_39 : decode cX8_begin 39 = .ok (.bipush 120, 2) := by decide +kernel
theorem dX8_begin_41 : decode cX8_begin 41 = .ok (.invokestatic 101, 3) := by decide +kernel
theorem dX8_begin_44 : decode cX8_begin 44 = .ok (.aload_n 1, 1) := by decide +kernel
theorem dX8_begin_45 : decode cX8_begin 45 = .ok (.getfield 107, 3) := by decide +kernel
theorem dX8_begin_48 : decode cX8_begin 48 = .ok (.iconst 0, 1) := by decide +kernel
theorem dX8_begin_49 : decode cX8_begin 49 = .ok (.aload_n 0, 1) := by decide +kernel
theorem dX8_begin_50 : decode cX8_begin 50 = .ok (.getfield 41, 3) := by decide +kernel
theorem dX8_begin_53 : decode cX8_begin 53 = .ok (.iconst 0, 1) := by decide +kernel
theorem dX8_begin_54 : decode cX8_begin 54 = .ok (.bipush 120, 2) := by decide +kernel
theorem dX8_begin_56 : decode cX8_begin 56 = .ok (.invokestatic 101, 3) := by decide +kernel
theorem dX8_begin_59 : decode cX8_begin 59 = .ok (.return_, 1) := by decide +kernel
theorem gCpy_ne {M : gM} {a0 sp a dp n b : Int} (h : b ≠ a) : gCpy M a0 sp a dp n b = M b := by funext y; simp [gCpy, h]
def rbP (sh : gS) (M : gM) (cs : List kC) (pl : kP) (rs : List rF) (im fa : Int → Int) (M1 : gM) : Prop :=
  (∀ k : Nat, k < cs.length → mIs M1 389 (k : Int) (kEld cs pl k)) ∧ mIs M1 392 0 (eMark cs pl rs) ∧ gOK sh M1 ∧ (∀ k : Int, 0 ≤ k → k < 120 → M1 395 k = im k ∧ M1 396 k = fa k) ∧ ∀ b : Int, b < 390 ∨ b = 392 ∨ 396 < b → M1 b = M b
theorem sp_X8_begin {sh : gS} {M : gM} {a h z : Int} {cs : List kC} {pl : kP} {rs : List rF} (hOK : gOK sh M) (hC : cOk sh M cs) (hP : plOk sh M a pl) (hF : kForeOk cs pl) (hR : rOk sh M h rs) (hat : rAt cs rs) (ha : 396 < a) (hh : 396 < h) :
    gC (gr 3 72) yX8_begin cX8_begin 4 none [(4, 3), (4, a), (4, h), (0, z)] sh M (gPm sh (fun r M1 => r = none ∧ rbP sh M cs pl rs (if z = 0 then pl.2.2.1 else fun _ => -1) (if z = 0 then pl.2.2.2 else fun _ => -1) M1)) := by
  have hap := hP.1
  obtain ⟨s0, q1, q2, q3, q4, q5, q6, q7, s8, s9, s10, s11⟩ := id hap
  refine gC_ofA (lv := [_, _, _, _]) (by decide +kernel) (Nat.le_of_ble_eq_true rfl) rfl (fun hMw hav => ?_)
  refine g_aload_n (q0 := 1) (j := 0) rfl dX8_begin_0 rfl ?_
  refine g_aload_n (q0 := 2) (j := 1) rfl dX8_begin_1 rfl ?_
  refine g_aload_n (q0 := 3) (j := 2) rfl dX8_begin_2 rfl ?_
  refine g_callVm (as := [_, _]) (rest := []) mt_X8_markPlan mi_X8_markPlan se_X8_markPlan ml_X8_90 dX8_begin_3 (q0 := 6) rfl rfl (sh_3 hOK) rfl rfl (sp_X8_markPlan hOK hC hP hF hR hat (by omega) (by omega)) rfl ⟨by decide, by decide⟩ (Nat.le_of_ble_eq_true rfl) ⟨Nat.zero_le _, Nat.zero_le _⟩ (fun r1 M1 hP1 hw1 hMw1 => ?_)
  obtain ⟨rfl, e1, e2, hO1, e3⟩ := hP1
  refine g_iload_n (q0 := 7) (j := 3) rfl dX8_begin_6 rfl ?_
  refine g_if_eq (q0 := 10) (tgt := 29) rfl dX8_begin_7 (by decide) (fun h7 => ?_) (fun h7 => ?_)
  · rw [if_pos h7, if_pos h7]
    have hP2 := plOk_keep (M1 := M1) hP (fun b b0 b1 => e3 b (by omega) (by omega) (by omega) (by omega))
    have hm := hP2.2.2.2.2
    refine g_aload_n (q0 := 30) (j := 1) rfl dX8_begin_29 rfl ?_
    refine g_getp (q0 := 33) (b := a + 22) rfl ff_X8_100 dX8_begin_30 rfl hO1 (by omega) (by assumption) rfl rfl ?_
    refine g_iconst (q0 := 34) rfl dX8_begin_33 (k := ?_)
    refine g_aload_n (q0 := 35) (j := 0) rfl dX8_begin_34 rfl ?_
    refine g_getp (q0 := 38) (b := 395) rfl ff_X8_37 dX8_begin_35 rfl hO1 (by decide) (sh_3 hOK) rfl (by decide) ?_
    refine g_iconst (q0 := 39) rfl dX8_begin_38 (k := ?_)
    refine g_bipush (q0 := 41) rfl dX8_begin_39 (k := ?_)
    refine g_copy (q0 := 44) rfl (Or.inl rfl) ml_X8_101 nat_acopy sta_acopy inic_System dX8_begin_41 (by assumption) (sh_395 hOK) (by omega) (by omega) (by omega) (by omega) (by omega) (fun h => by cases h) (by decide) (Nat.le_of_ble_eq_true rfl) ?_
    refine g_aload_n (q0 := 45) (j := 1) rfl dX8_begin_44 rfl ?_
    refine g_getp (q0 := 48) (b := a + 23) rfl ff_X8_107 dX8_begin_45 rfl (gOK_cpy hO1 (sh_395 hOK) (Or.inl rfl)) (by omega) (by assumption) rfl rfl ?_
    refine g_iconst (q0 := 49) rfl dX8_begin_48 (k := ?_)
    refine g_aload_n (q0 := 50) (j := 0) rfl dX8_begin_49 rfl ?_
    refine g_getp (q0 := 53) (b := 396) rfl ff_X8_41 dX8_begin_50 rfl (gOK_cpy hO1 (sh_395 hOK) (Or.inl rfl)) (by decide) (sh_3 hOK) rfl (by decide) ?_
    refine g_iconst (q0 := 54) rfl dX8_begin_53 (k := ?_)
    refine g_bipush (q0 := 56) rfl dX8_begin_54 (k := ?_)
    refine g_copy (q0 := 59) rfl (Or.inl rfl) ml_X8_101 nat_acopy sta_acopy inic_System dX8_begin_56 (by assumption) (sh_396 hOK) (by omega) (by omega) (by omega) (by omega) (by omega) (fun h => by cases h) (by decide) (Nat.le_of_ble_eq_true rfl) ?_
    refine g_return dX8_begin_59 rfl ⟨Nat.zero_le _, Nat.zero_le _⟩ ?_
    refine ⟨rfl, rfl, fun k hk j hj => ?_, fun j hj => ?_, gOK_cpy (gOK_cpy hO1 (sh_395 hO1) (Or.inl rfl)) (sh_396 hO1) (Or.inl rfl), fun k k0 k1 => ⟨?_, ?_⟩, fun b hb => ?_⟩
    · rw [mB_row (M := M1) ⟨by simp [gCpy], by simp [gCpy]⟩]
      exact e1 k hk j hj
    · rw [mB_row (M := M1) ⟨by simp [gCpy], by simp [gCpy]⟩]
      exact e2 j hj
    · rw [gCpy_ne (by decide), gCpy_in ⟨k0, by omega⟩, show 0 + (k - 0) = k by omega]
      exact (hm k k0 k1).1
    · rw [gCpy_in ⟨k0, by omega⟩, gCpy_ne (by omega), show 0 + (k - 0) = k by omega]
      exact (hm k k0 k1).2
    · rw [gCpy_ne (by omega), gCpy_ne (by omega), e3 b (by omega) (by omega) (by omega) (by omega)]
  · rw [if_neg h7, if_neg h7]
    refine g_aload_n (q0 := 11) (j := 0) rfl dX8_begin_10 rfl ?_
    refine g_getp (q0 := 14) (b := 395) rfl ff_X8_37 dX8_begin_11 rfl hO1 (by decide) (sh_3 hOK) rfl (by decide) ?_
    refine g_iconst (q0 := 15) rfl dX8_begin_14 (k := ?_)
    refine g_callSm (as := [_, _]) (rest := []) mt_J7_fill_53178 ms_J7_fill_53178 ml_X8_94 dX8_begin_15 (q0 := 18) rfl rfl (sp_J7_fill hO1 (sh_395 hO1) (by decide) (by decide)) rfl ⟨by decide, by decide⟩ (Nat.le_of_ble_eq_true rfl) ⟨Nat.zero_le _, Nat.zero_le _⟩ (fun r2 M2 hP2 hw2 hMw2 => ?_)
    obtain ⟨rfl, a1, hO2, a2⟩ := hP2
    refine g_aload_n (q0 := 19) (j := 0) rfl dX8_begin_18 rfl ?_
    refine g_getp (q0 := 22) (b := 396) rfl ff_X8_41 dX8_begin_19 rfl hO2 (by decide) (sh_3 hOK) rfl (by decide) ?_
    refine g_iconst (q0 := 23) rfl dX8_begin_22 (k := ?_)
    refine g_callSm (as := [_, _]) (rest := []) mt_J7_fill_53178 ms_J7_fill_53178 ml_X8_94 dX8_begin_23 (q0 := 26) rfl rfl (sp_J7_fill hO2 (sh_396 hO2) (by decide) (by decide)) rfl ⟨by decide, by decide⟩ (Nat.le_of_ble_eq_true rfl) ⟨Nat.zero_le _, Nat.zero_le _⟩ (fun r3 M3 hP3 hw3 hMw3 => ?_)
    obtain ⟨rfl, b1, hO3, b2⟩ := hP3
    refine g_goto (tgt := 59) dX8_begin_26 (by decide) ?_
    refine g_return dX8_begin_59 rfl ⟨Nat.zero_le _, Nat.zero_le _⟩ ?_
    refine ⟨rfl, rfl, fun k hk j hj => ?_, fun j hj => ?_, hO3, fun k k0 k1 => ⟨?_, ?_⟩, fun b hb => ?_⟩
    · rw [mB_row (M := M1) ⟨by rw [b2 _ (by decide), a2 _ (by decide)], by rw [b2 _ (by decide), a2 _ (by decide)]⟩]
      exact e1 k hk j hj
    · rw [mB_row (M := M1) ⟨by rw [b2 _ (by decide), a2 _ (by decide)], by rw [b2 _ (by decide), a2 _ (by decide)]⟩]
      exact e2 j hj
    · rw [b2 _ (by decide)]
      exact a1 k k0 k1
    · exact b1 k k0 k1
    · rw [b2 b (by omega), a2 b (by omega), e3 b (by omega) (by omega) (by omega) (by omega)]
