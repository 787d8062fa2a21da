-- ==== the words of a PLAN's text: PlanText.spelling, isSpelt
theorem dX6_spelling_0 : decode cX6_spelling 0 = .ok (.iload_n 0, 1) := by decide +kernel
theorem dX6_spelling_1 : decode cX6_spelling 1 = .ok (.tableswitch 113 0 13 #[71, 74, 77, 80, 83, 86, 89, 92, 95, 98, 101, 104, 107, 110], 71) := by decide +kernel
theorem dX6_spelling_72 : decode cX6_spelling 72 = .ok (.ldc 112, 2) := by decide +kernel
theorem dX6_spelling_74 : decode cX6_spelling 74 = .ok (.areturn, 1) := by decide +kernel
theorem dX6_spelling_75 : decode cX6_spelling 75 = .ok (.ldc 114, 2) := by decide +kernel
theorem dX6_spelling_77 : decode cX6_spelling 77 = .ok (.areturn, 1) := by decide +kernel
theorem dX6_spelling_78 : decode cX6_spelling 78 = .ok (.ldc 116, 2) := by decide +kernel
theorem dX6_spelling_80 : decode cX6_spelling 80 = .ok (.areturn, 1) := by decide +kernel
theorem dX6_spelling_81 : decode cX6_spelling 81 = .ok (.ldc 118, 2) := by decide +kernel
theorem dX6_spelling_83 : decode cX6_spelling 83 = .ok (.areturn, 1) := by decide +kernel
theorem dX6_spelling_84 : decode cX6_spelling 84 = .ok (.ldc 120, 2) := by decide +kernel
theorem dX6_spelling_86 : decode cX6_spelling 86 = .ok (.areturn, 1) := by decide +kernel
theorem dX6_spelling_87 : decode cX6_spelling 87 = .ok (.ldc 122, 2) := by decide +kernel
theorem dX6_spelling_89 : decode cX6_spelling 89 = .ok (.areturn, 1) := by decide +kernel
theorem dX6_spelling_90 : decode cX6_spelling 90 = .ok (.ldc 124, 2) := by decide +kernel
theorem dX6_spelling_92 : decode cX6_spelling 92 = .ok (.areturn, 1) := by decide +kernel
theorem dX6_spelling_93 : decode cX6_spelling 93 = .ok (.ldc 126, 2) := by decide +kernel
theorem dX6_spelling_95 : decode cX6_spelling 95 = .ok (.areturn, 1) := by decide +kernel
theorem dX6_spelling_96 : decode cX6_spelling 96 = .ok (.ldc 128, 2) := by decide +kernel
theorem dX6_spelling_98 : decode cX6_spelling 98 = .ok (.areturn, 1) := by decide +kernel
theorem dX6_spelling_99 : decode cX6_spelling 99 = .ok (.ldc 130, 2) := by decide +kernel
theorem dX6_spelling_101 : decode cX6_spelling 101 = .ok (.areturn, 1) := by decide +kernel
theorem dX6_spelling_102 : decode cX6_spelling 102 = .ok (.ldc 132, 2) := by decide +kernel
theorem dX6_spelling_104 : decode cX6_spelling 104 = .ok (.areturn, 1) := by decide +kernel
theorem dX6_spelling_105 : decode cX6_spelling 105 = .ok (.ldc 134, 2) := by decide +kernel
theorem dX6_spelling_107 : decode cX6_spelling 107 = .ok (.areturn, 1) := by decide +kernel
theorem dX6_spelling_108 : decode cX6_spelling 108 = .ok (.ldc 136, 2) := by decide +kernel
theorem dX6_spelling_110 : decode cX6_spelling 110 = .ok (.areturn, 1) := by decide +kernel
theorem dX6_spelling_111 : decode cX6_spelling 111 = .ok (.ldc 138, 2) := by decide +kernel
theorem dX6_spelling_113 : decode cX6_spelling 113 = .ok (.areturn, 1) := by decide +kernel
theorem dX6_spelling_114 : decode cX6_spelling 114 = .ok (.ldc 140, 2) := by decide +kernel
theorem dX6_spelling_116 : decode cX6_spelling 116 = .ok (.areturn, 1) := by decide +kernel
theorem dX6_isSpelt_0 : decode cX6_isSpelt 0 = .ok (.aload_n 1, 1) := by decide +kernel
theorem dX6_isSpelt_1 : decode cX6_isSpelt 1 = .ok (.getfield 51, 3) := by decide +kernel
theorem dX6_isSpelt_4 : decode cX6_isSpelt 4 = .ok (.aload_n 0, 1) := by decide +kernel
theorem dX6_isSpelt_5 : decode cX6_isSpelt 5 = .ok (.getfield 54, 3) := by decide +kernel
theorem dX6_isSpelt_8 : decode cX6_isSpelt 8 = .ok (.isub, 1) := by decide +kernel
theorem dX6_isSpelt_9 : decode cX6_isSpelt 9 = .ok (.aload_n 2, 1) := by decide +kernel
theorem dX6_isSpelt_10 : decode cX6_isSpelt 10 = .ok (.invokevirtual 99, 3) := by decide +kernel
theorem dX6_isSpelt_13 : decode cX6_isSpelt 13 = .ok (.if_icmp .eq 5, 3) := by decide +kernel
theorem dX6_isSpelt_16 : decode cX6_isSpelt 16 = .ok (.iconst 0, 1) := by decide +kernel
theorem dX6_isSpelt_17 : decode cX6_isSpelt 17 = .ok (.ireturn, 1) := by decide +kernel
theorem dX6_isSpelt_18 : decode cX6_isSpelt 18 = .ok (.iconst 0, 1) := by decide +kernel
theorem dX6_isSpelt_19 : decode cX6_isSpelt 19 = .ok (.istore_n 3, 1) := by decide +kernel
theorem dX6_isSpelt_20 : decode cX6_isSpelt 20 = .ok (.iload_n 3, 1) := by decide +kernel
theorem dX6_isSpelt_21 : decode cX6_isSpelt 21 = .ok (.aload_n 2, 1) := by decide +kernel
theorem dX6_isSpelt_22 : decode cX6_isSpelt 22 = .ok (.invokevirtual 99, 3) := by decide +kernel
theorem dX6_isSpelt_25 : decode cX6_isSpelt 25 = .ok (.if_icmp .ge 29, 3) := by decide +kernel
theorem dX6_isSpelt_28 : decode cX6_isSpelt 28 = .ok (.aload_n 1, 1) := by decide +kernel
theorem dX6_isSpelt_29 : decode cX6_isSpelt 29 = .ok (.aload_n 0, 1) := by decide +kernel
theorem dX6_isSpelt_30 : decode cX6_isSpelt 30 = .ok (.getfield 54, 3) := by decide +kernel
theorem dX6_isSpelt_33 : decode cX6_isSpelt 33 = .ok (.iload_n 3, 1) := by decide +kernel
theorem dX6_isSpelt_34 : decode cX6_isSpelt 34 = .ok (.iadd, 1) := by decide +kernel
theorem dX6_isSpelt_35 : decode cX6_isSpelt 35 = .ok (.invokevirtual 105, 3) := by decide +kernel
theorem dX6_isSpelt_38 : decode cX6_isSpelt 38 = .ok (.aload_n 2, 1) := by decide +kernel
theorem dX6_isSpelt_39 : decode cX6_isSpelt 39 = .ok (.iload_n 3, 1) := by decide +kernel
theorem dX6_isSpelt_40 : decode cX6_isSpelt 40 = .ok (.invokevirtual 108, 3) := by decide +kernel
theorem dX6_isSpelt_43 : decode cX6_isSpelt 43 = .ok (.if_icmp .eq 5, 3) := by decide +kernel
theorem dX6_isSpelt_46 : decode cX6_isSpelt 46 = .ok (.iconst 0, 1) := by decide +kernel
theorem dX6_isSpelt_47 : decode cX6_isSpelt 47 = .ok (.ireturn, 1) := by decide +kernel
theorem dX6_isSpelt_48 : decode cX6_isSpelt 48 = .ok (.iinc 3 1, 3) := by decide +kernel
theorem dX6_isSpelt_51 : decode cX6_isSpelt 51 = .ok (.goto (-31), 3) := by decide +kernel
theorem dX6_isSpelt_54 : decode cX6_isSpelt 54 = .ok (.iconst 1, 1) := by decide +kernel
theorem dX6_isSpelt_55 : decode cX6_isSpelt 55 = .ok (.ireturn, 1) := by decide +kernel
theorem sp_X9_at2 {sh : gS} {M : gM} {i c : Int} (hOK : gOK sh M) (hi : 0 ≤ i ∧ i < 260) (hc : 0 ≤ c ∧ c < 256) (hm : M 2 i = sb c) :
    gC (gr 0 0) yX9_at cX9_at 2 (some (.int)) [(4, 1), (0, i)] sh M (gPp sh M (0, c)) := by
  refine gC_ofA (lv := [_, _]) (by decide +kernel) (Nat.le_of_ble_eq_true rfl) rfl (fun hMw hav => ?_)
  refine g_iload_n (q0 := 1) (j := 1) rfl dX9_at_0 rfl ?_
  refine g_if_lt (q0 := 4) (tgt := 24) rfl dX9_at_1 (by decide) (fun h1 => ?_) (fun h1 => ?_)
  · omega
  · refine g_iload_n (q0 := 5) (j := 1) rfl dX9_at_4 rfl ?_
    refine g_sipush (q0 := 8) rfl dX9_at_5 (k := ?_)
    refine g_icmp_ge (q0 := 11) (tgt := 24) rfl dX9_at_8 (by decide) (fun h8 => ?_) (fun h8 => ?_)
    · omega
    · refine g_aload_n (q0 := 12) (j := 0) rfl dX9_at_11 rfl ?_
      refine g_getp (q0 := 15) (b := 2) rfl ff_X9_9 dX9_at_12 rfl hOK (by decide) (sh_1 hOK) rfl (by decide) ?_
      refine g_iload_n (q0 := 16) (j := 1) rfl dX9_at_15 rfl ?_
      refine g_bald (q0 := 17) rfl dX9_at_16 (sh_2 hOK) (by omega) (by omega) ?_
      refine g_sipush (q0 := 20) rfl dX9_at_17 (k := ?_)
      refine g_iand (q0 := 21) rfl dX9_at_20 ?_
      refine g_goto (tgt := 25) dX9_at_21 (by decide) ?_
      refine g_ireturn dX9_at_25 rfl ⟨Nat.zero_le _, Nat.zero_le _⟩ ?_
      exact ⟨by rw [hm, sb_and hc.1 hc.2], rfl, rfl⟩
theorem sp_X6_spelling {sh : gS} {M : gM} {i : Nat} (hi : i < 15) : gC (gr 0 0) yX6_spelling cX6_spelling 1 (some (.object "java/lang/String")) [(0, (i : Int))] sh M (gPp sh M (5, (i : Int))) := by
  refine gC_ofA (lv := [_]) (by decide +kernel) (Nat.le_of_ble_eq_true rfl) rfl (fun hMw hav => ?_)
  refine g_iload_n (q0 := 1) (j := 0) rfl dX6_spelling_0 rfl ?_
  have hc : i = 0 ∨ i = 1 ∨ i = 2 ∨ i = 3 ∨ i = 4 ∨ i = 5 ∨ i = 6 ∨ i = 7 ∨ i = 8 ∨ i = 9 ∨ i = 10 ∨ i = 11 ∨ i = 12 ∨ i = 13 ∨ i = 14 := by omega
  rcases hc with rfl | rfl | rfl | rfl | rfl | rfl | rfl | rfl | rfl | rfl | rfl | rfl | rfl | rfl | rfl
  · refine g_tabIn (off := 71) (tgt := 72) dX6_spelling_1 (by decide) (by decide) rfl (by decide) ?_
    refine g_ldcS (q0 := 74) (i := 0) rfl (by decide) rfl rfl dX6_spelling_72 ?_
    refine g_areturn5 (by decide) dX6_spelling_74 rfl ⟨Nat.zero_le _, Nat.zero_le _⟩ ?_
    exact ⟨rfl, rfl, rfl⟩
  · refine g_tabIn (off := 74) (tgt := 75) dX6_spelling_1 (by decide) (by decide) rfl (by decide) ?_
    refine g_ldcS (q0 := 77) (i := 1) rfl (by decide) rfl rfl dX6_spelling_75 ?_
    refine g_areturn5 (by decide) dX6_spelling_77 rfl ⟨Nat.zero_le _, Nat.zero_le _⟩ ?_
    exact ⟨rfl, rfl, rfl⟩
  · refine g_tabIn (off := 77) (tgt := 78) dX6_spelling_1 (by decide) (by decide) rfl (by decide) ?_
    refine g_ldcS (q0 := 80) (i := 2) rfl (by decide) rfl rfl dX6_spelling_78 ?_
    refine g_areturn5 (by decide) dX6_spelling_80 rfl ⟨Nat.zero_le _, Nat.zero_le _⟩ ?_
    exact ⟨rfl, rfl, rfl⟩
  · refine g_tabIn (off := 80) (tgt := 81) dX6_spelling_1 (by decide) (by decide) rfl (by decide) ?_
    refine g_ldcS (q0 := 83) (i := 3) rfl (by decide) rfl rfl dX6_spelling_81 ?_
    refine g_areturn5 (by decide) dX6_spelling_83 rfl ⟨Nat.zero_le _, Nat.zero_le _⟩ ?_
    exact ⟨rfl, rfl, rfl⟩
  · refine g_tabIn (off := 83) (tgt := 84) dX6_spelling_1 (by decide) (by decide) rfl (by decide) ?_
    refine g_ldcS (q0 := 86) (i := 4) rfl (by decide) rfl rfl dX6_spelling_84 ?_
    refine g_areturn5 (by decide) dX6_spelling_86 rfl ⟨Nat.zero_le _, Nat.zero_le _⟩ ?_
    exact ⟨rfl, rfl, rfl⟩
  · refine g_tabIn (off := 86) (tgt := 87) dX6_spelling_1 (by decide) (by decide) rfl (by decide) ?_
    refine g_ldcS (q0 := 89) (i := 5) rfl (by decide) rfl rfl dX6_spelling_87 ?_
    refine g_areturn5 (by decide) dX6_spelling_89 rfl ⟨Nat.zero_le _, Nat.zero_le _⟩ ?_
    exact ⟨rfl, rfl, rfl⟩
  · refine g_tabIn (off := 89) (tgt := 90) dX6_spelling_1 (by decide) (by decide) rfl (by decide) ?_
    refine g_ldcS (q0 := 92) (i := 6) rfl (by decide) rfl rfl dX6_spelling_90 ?_
    refine g_areturn5 (by decide) dX6_spelling_92 rfl ⟨Nat.zero_le _, Nat.zero_le _⟩ ?_
    exact ⟨rfl, rfl, rfl⟩
  · refine g_tabIn (off := 92) (tgt := 93) dX6_spelling_1 (by decide) (by decide) rfl (by decide) ?_
    refine g_ldcS (q0 := 95) (i := 7) rfl (by decide) rfl rfl dX6_spelling_93 ?_
    refine g_areturn5 (by decide) dX6_spelling_95 rfl ⟨Nat.zero_le _, Nat.zero_le _⟩ ?_
    exact ⟨rfl, rfl, rfl⟩
  · refine g_tabIn (off := 95) (tgt := 96) dX6_spelling_1 (by decide) (by decide) rfl (by decide) ?_
    refine g_ldcS (q0 := 98) (i := 8) rfl (by decide) rfl rfl dX6_spelling_96 ?_
    refine g_areturn5 (by decide) dX6_spelling_98 rfl ⟨Nat.zero_le _, Nat.zero_le _⟩ ?_
    exact ⟨rfl, rfl, rfl⟩
  · refine g_tabIn (off := 98) (tgt := 99) dX6_spelling_1 (by decide) (by decide) rfl (by decide) ?_
    refine g_ldcS (q0 := 101) (i := 9) rfl (by decide) rfl rfl dX6_spelling_99 ?_
    refine g_areturn5 (by decide) dX6_spelling_101 rfl ⟨Nat.zero_le _, Nat.zero_le _⟩ ?_
    exact ⟨rfl, rfl, rfl⟩
  · refine g_tabIn (off := 101) (tgt := 102) dX6_spelling_1 (by decide) (by decide) rfl (by decide) ?_
    refine g_ldcS (q0 := 104) (i := 10) rfl (by decide) rfl rfl dX6_spelling_102 ?_
    refine g_areturn5 (by decide) dX6_spelling_104 rfl ⟨Nat.zero_le _, Nat.zero_le _⟩ ?_
    exact ⟨rfl, rfl, rfl⟩
  · refine g_tabIn (off := 104) (tgt := 105) dX6_spelling_1 (by decide) (by decide) rfl (by decide) ?_
    refine g_ldcS (q0 := 107) (i := 11) rfl (by decide) rfl rfl dX6_spelling_105 ?_
    refine g_areturn5 (by decide) dX6_spelling_107 rfl ⟨Nat.zero_le _, Nat.zero_le _⟩ ?_
    exact ⟨rfl, rfl, rfl⟩
  · refine g_tabIn (off := 107) (tgt := 108) dX6_spelling_1 (by decide) (by decide) rfl (by decide) ?_
    refine g_ldcS (q0 := 110) (i := 12) rfl (by decide) rfl rfl dX6_spelling_108 ?_
    refine g_areturn5 (by decide) dX6_spelling_110 rfl ⟨Nat.zero_le _, Nat.zero_le _⟩ ?_
    exact ⟨rfl, rfl, rfl⟩
  · refine g_tabIn (off := 110) (tgt := 111) dX6_spelling_1 (by decide) (by decide) rfl (by decide) ?_
    refine g_ldcS (q0 := 113) (i := 13) rfl (by decide) rfl rfl dX6_spelling_111 ?_
    refine g_areturn5 (by decide) dX6_spelling_113 rfl ⟨Nat.zero_le _, Nat.zero_le _⟩ ?_
    exact ⟨rfl, rfl, rfl⟩
  · refine g_tabOut (tgt := 114) dX6_spelling_1 (by decide) (by decide) ?_
    refine g_ldcS (q0 := 116) (i := 14) rfl (by decide) rfl rfl dX6_spelling_114 ?_
    refine g_areturn5 (by decide) dX6_spelling_116 rfl ⟨Nat.zero_le _, Nat.zero_le _⟩ ?_
    exact ⟨rfl, rfl, rfl⟩
/-- the word of that number -/
def wd (i : Nat) : List Int := (gSbyt.getD i []).map (fun b => b.toInt)
theorem wd_len {i : Nat} (hi : i < 15) : (wd i).length = gSlen.getD i 0 := by unfold wd; rw [List.length_map]; exact (sl_all i hi).2.1.symm
theorem wd_at {i j : Nat} (hi : i < 15) (hj : j < gSlen.getD i 0) : (wd i)[j]? = some (sC i j) := by
  have hl := (sl_all i hi).2.1
  unfold wd sC
  generalize gSbyt.getD i [] = L at hl ⊢
  rw [List.getElem?_map, List.getD_eq_getElem?_getD]
  have e := List.getElem?_eq_getElem (l := L) (i := j) (by omega)
  rw [e]; rfl
/-- what stands on the tape between two places -/
def tWd (M : gM) (p : Int) (w : List Int) : Prop := 0 ≤ p ∧ p + (w.length : Int) ≤ 260 ∧ ∀ (j : Nat) (c : Int), w[j]? = some c → 0 ≤ c ∧ c < 256 ∧ M 2 (p + (j : Int)) = sb c
theorem sp_X6_isSpelt {sh : gS} {M : gM} {i : Nat} {p : Int} {w : List Int} (hOK : gOK sh M) (hi : i < 15) (hp : M 410 2 = p) (hq : M 1 2 = p + (w.length : Int)) (hW : tWd M p w) : gC (gr 6 126) yX6_isSpelt cX6_isSpelt 4 (some (.boolean)) [(4, 410), (4, 1), (5, (i : Int))] sh M (gPp sh M (0, bI (decide (w = wd i)))) := by
  obtain ⟨w0, w1, w2⟩ := hW
  have s1 := sl_all i hi
  have hlen := wd_len hi
  refine gC_ofA (lv := [_, _, _, _]) (by decide +kernel) (Nat.le_of_ble_eq_true rfl) rfl (fun hMw hav => ?_)
  refine g_aload_n (q0 := 1) (j := 1) rfl dX6_isSpelt_0 rfl ?_
  refine g_getf (q0 := 4) (t := 0) (fi := 2) rfl rfl ff_X6_51 dX6_isSpelt_1 rfl (sh_1 hOK) ?_
  refine g_aload_n (q0 := 5) (j := 0) rfl dX6_isSpelt_4 rfl ?_
  refine g_getf (q0 := 8) (t := 0) (fi := 2) rfl rfl ff_X6_54 dX6_isSpelt_5 rfl (sh_410 hOK) ?_
  refine g_isub (q0 := 9) rfl dX6_isSpelt_8 (by omega) (by omega) ?_
  refine g_aload5_n (q0 := 10) (j := 2) rfl dX6_isSpelt_9 rfl ?_
  refine g_callW hi (as := []) (rest := [_]) mt_J0_length_8abf5 mi_J0_length_8abf5 se_J0_length_8abf5 ml_X6_99 dX6_isSpelt_10 (q0 := 13) rfl rfl rfl (sp_J0_length hi) rfl ⟨by decide, by decide⟩ (Nat.le_of_ble_eq_true rfl) ⟨Nat.zero_le _, Nat.zero_le _⟩ (fun hwc => ?_)
  refine g_icmp_eq (q0 := 16) (tgt := 18) rfl dX6_isSpelt_13 (by decide) (fun h13 => ?_) (fun h13 => ?_)
  · rw [hp, hq] at h13
    have hwl : w.length = gSlen.getD i 0 := by omega
    refine g_iconst (q0 := 19) rfl dX6_isSpelt_18 (k := ?_)
    refine g_istore_n (q0 := 20) (j := 3) (lv2 := [_, _, _, _]) rfl dX6_isSpelt_19 (by decide) rfl rfl ?_
    have lp : ∀ (m x : Nat), x + m = w.length → (∀ j, j < x → w[j]? = (wd i)[j]?) → gA (gr 6 126) yX6_isSpelt cX6_isSpelt 4 (some (.boolean)) (gPp sh M (0, bI (decide (w = wd i)))) (0, 0) 20 [(4, 410), (4, 1), (5, (i : Int)), (0, (x : Int))] [] sh M := by
      intro m
      induction m with
      | zero =>
        intro x hx he
        refine g_iload_n (q0 := 21) (j := 3) rfl dX6_isSpelt_20 rfl ?_
        refine g_aload5_n (q0 := 22) (j := 2) rfl dX6_isSpelt_21 rfl ?_
        refine g_callW hi (as := []) (rest := [_]) mt_J0_length_8abf5 mi_J0_length_8abf5 se_J0_length_8abf5 ml_X6_99 dX6_isSpelt_22 (q0 := 25) rfl rfl rfl (sp_J0_length hi) rfl ⟨by decide, by decide⟩ (Nat.le_of_ble_eq_true rfl) ⟨Nat.zero_le _, Nat.zero_le _⟩ (fun hwc => ?_)
        refine g_icmp_ge (q0 := 28) (tgt := 54) rfl dX6_isSpelt_25 (by decide) (fun h25 => ?_) (fun h25 => ?_)
        · refine g_iconst (q0 := 55) rfl dX6_isSpelt_54 (k := ?_)
          refine g_zreturn dX6_isSpelt_55 rfl (by first | rfl | exact gnz (by omega)) ⟨Nat.zero_le _, Nat.zero_le _⟩ ?_
          have e : w = wd i := List.ext_getElem? (fun j => by
            by_cases hj : j < x
            · exact he j hj
            · rw [List.getElem?_eq_none (by omega), List.getElem?_eq_none (by omega)])
          exact ⟨by rw [decide_eq_true e]; rfl, rfl, rfl⟩
        · omega
      | succ m ih =>
        intro x hx he
        refine g_iload_n (q0 := 21) (j := 3) rfl dX6_isSpelt_20 rfl ?_
        refine g_aload5_n (q0 := 22) (j := 2) rfl dX6_isSpelt_21 rfl ?_
        refine g_callW hi (as := []) (rest := [_]) mt_J0_length_8abf5 mi_J0_length_8abf5 se_J0_length_8abf5 ml_X6_99 dX6_isSpelt_22 (q0 := 25) rfl rfl rfl (sp_J0_length hi) rfl ⟨by decide, by decide⟩ (Nat.le_of_ble_eq_true rfl) ⟨Nat.zero_le _, Nat.zero_le _⟩ (fun hwc => ?_)
        refine g_icmp_ge (q0 := 28) (tgt := 54) rfl dX6_isSpelt_25 (by decide) (fun h25 => ?_) (fun h25 => ?_)
        · omega
        · have hxl : x < w.length := by omega
          have hwx := List.getElem?_eq_getElem hxl
          generalize hcw : w[x] = c at hwx
          obtain ⟨c0, c1, c2⟩ := w2 x c hwx
          have hda := wd_at hi (show x < gSlen.getD i 0 by omega)
          refine g_aload_n (q0 := 29) (j := 1) rfl dX6_isSpelt_28 rfl ?_
          refine g_aload_n (q0 := 30) (j := 0) rfl dX6_isSpelt_29 rfl ?_
          refine g_getf (q0 := 33) (t := 0) (fi := 2) rfl rfl ff_X6_54 dX6_isSpelt_30 rfl (sh_410 hOK) ?_
          refine g_iload_n (q0 := 34) (j := 3) rfl dX6_isSpelt_33 rfl ?_
          refine g_iadd (q0 := 35) rfl dX6_isSpelt_34 (by omega) (by omega) ?_
          rw [hp]
          refine g_callVp (as := [_]) (rest := []) mt_X9_at mi_X9_at se_X9_at ml_X6_105 dX6_isSpelt_35 (q0 := 38) rfl rfl (sh_1 hOK) rfl rfl (sp_X9_at2 hOK ⟨(by omega), (by omega)⟩ ⟨c0, c1⟩ c2) rfl ⟨by decide, by decide⟩ (Nat.le_of_ble_eq_true rfl) ⟨Nat.zero_le _, Nat.zero_le _⟩ (fun hwc => ?_)
          refine g_aload5_n (q0 := 39) (j := 2) rfl dX6_isSpelt_38 rfl ?_
          refine g_iload_n (q0 := 40) (j := 3) rfl dX6_isSpelt_39 rfl ?_
          refine g_callW hi (as := [_]) (rest := [_]) mt_J0_charAt_5068e mi_J0_charAt_5068e se_J0_charAt_5068e ml_X6_108 dX6_isSpelt_40 (q0 := 43) rfl rfl rfl (sp_J0_charAt hi (show x < gSlen.getD i 0 by omega)) rfl ⟨by decide, by decide⟩ (Nat.le_of_ble_eq_true rfl) ⟨Nat.zero_le _, Nat.zero_le _⟩ (fun hwc => ?_)
          refine g_icmp_eq (q0 := 46) (tgt := 48) rfl dX6_isSpelt_43 (by decide) (fun h43 => ?_) (fun h43 => ?_)
          · refine g_iinc (q0 := 51) (lv2 := [_, _, _, _]) rfl dX6_isSpelt_48 rfl (by decide) rfl rfl (by omega) (by omega) ?_
            refine g_goto (tgt := 20) dX6_isSpelt_51 (by decide) ?_
            refine ih (x + 1) (by omega) (fun j hj => ?_)
            by_cases e : j = x
            · rw [e, hwx, hda, h43]
            · exact he j (by omega)
          · refine g_iconst (q0 := 47) rfl dX6_isSpelt_46 (k := ?_)
            refine g_zreturn dX6_isSpelt_47 rfl (by first | rfl | exact gnz (by omega)) ⟨Nat.zero_le _, Nat.zero_le _⟩ ?_
            exact ⟨by rw [decide_eq_false (fun e => h43 (by rw [e, hda] at hwx; exact (Option.some.inj hwx).symm))]; rfl, rfl, rfl⟩
    exact lp w.length 0 (by omega) (fun j hj => by omega)
  · rw [hp, hq] at h13
    refine g_iconst (q0 := 17) rfl dX6_isSpelt_16 (k := ?_)
    refine g_zreturn dX6_isSpelt_17 rfl (by first | rfl | exact gnz (by omega)) ⟨Nat.zero_le _, Nat.zero_le _⟩ ?_
    exact ⟨by rw [decide_eq_false (fun e => h13 (by rw [e, hlen]; omega))]; rfl, rfl, rfl⟩
