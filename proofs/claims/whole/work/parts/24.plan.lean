-- ==== PLANS: pairs of each word, numbers by field, IMAGES, how each was rewritten
theorem dX5_isMapped_0 : decode cX5_isMapped 0 = .ok (.aload_n 0, 1) := by decide +kernel
theorem dX5_isMapped_1 : decode cX5_isMapped 1 = .ok (.getfield 42, 3) := by decide +kernel
theorem dX5_isMapped_4 : decode cX5_isMapped 4 = .ok (.iload_n 1, 1) := by decide +kernel
theorem dX5_isMapped_5 : decode cX5_isMapped 5 = .ok (.iaload, 1) := by decide +kernel
theorem dX5_isMapped_6 : decode cX5_isMapped 6 = .ok (.ifCond .lt 7, 3) := by decide +kernel
theorem dX5_isMapped_9 : decode cX5_isMapped 9 = .ok (.iconst 1, 1) := by decide +kernel
theorem dX5_isMapped_10 : decode cX5_isMapped 10 = .ok (.goto 4, 3) := by decide +kernel
theorem dX5_isMapped_13 : decode cX5_isMapped 13 = .ok (.iconst 0, 1) := by decide +kernel
theorem dX5_isMapped_14 : decode cX5_isMapped 14 = .ok (.ireturn, 1) := by decide +kernel
theorem dX5_isKept_0 : decode cX5_isKept 0 = .ok (.aload_n 0, 1) := by decide +kernel
theorem dX5_isKept_1 : decode cX5_isKept 1 = .ok (.getfield 42, 3) := by decide +kernel
theorem dX5_isKept_4 : decode cX5_isKept 4 = .ok (.iload_n 1, 1) := by decide +kernel
theorem dX5_isKept_5 : decode cX5_isKept 5 = .ok (.iaload, 1) := by decide +kernel
theorem dX5_isKept_6 : decode cX5_isKept 6 = .ok (.ifCond .ne 7, 3) := by decide +kernel
theorem dX5_isKept_9 : decode cX5_isKept 9 = .ok (.iconst 1, 1) := by decide +kernel
theorem dX5_isKept_10 : decode cX5_isKept 10 = .ok (.goto 4, 3) := by decide +kernel
theorem dX5_isKept_13 : decode cX5_isKept 13 = .ok (.iconst 0, 1) := by decide +kernel
theorem dX5_isKept_14 : decode cX5_isKept 14 = .ok (.ireturn, 1) := by decide +kernel
theorem dX5_foreCount_0 : decode cX5_foreCount 0 = .ok (.aload_n 0, 1) := by decide +kernel
theorem dX5_foreCount_1 : decode cX5_foreCount 1 = .ok (.getfield 32, 3) := by decide +kernel
theorem dX5_foreCount_4 : decode cX5_foreCount 4 = .ok (.iload_n 2, 1) := by decide +kernel
theorem dX5_foreCount_5 : decode cX5_foreCount 5 = .ok (.invokevirtual 100, 3) := by decide +kernel
theorem dX5_foreCount_8 : decode cX5_foreCount 8 = .ok (.istore_n 3, 1) := by decide +kernel
theorem dX5_foreCount_9 : decode cX5_foreCount 9 = .ok (.iload_n 3, 1) := by decide +kernel
theorem dX5_foreCount_10 : decode cX5_foreCount 10 = .ok (.ifCond .ge 10, 3) := by decide +kernel
theorem dX5_foreCount_13 : decode cX5_foreCount 13 = .ok (.aload_n 1, 1) := by decide +kernel
theorem dX5_foreCount_14 : decode cX5_foreCount 14 = .ok (.getfield 104, 3) := by decide +kernel
theorem dX5_foreCount_17 : decode cX5_foreCount 17 = .ok (.iload_n 2, 1) := by decide +kernel
theorem dX5_foreCount_18 : decode cX5_foreCount 18 = .ok (.iaload, 1) := by decide +kernel
theorem dX5_foreCount_19 : decode cX5_foreCount 19 = .ok (.ireturn, 1) := by decide +kernel
theorem dX5_foreCount_20 : decode cX5_foreCount 20 = .ok (.aload_n 0, 1) := by decide +kernel
theorem dX5_foreCount_21 : decode cX5_foreCount 21 = .ok (.getfield 32, 3) := by decide +kernel
theorem dX5_foreCount_24 : decode cX5_foreCount 24 = .ok (.getfield 109, 3) := by decide +kernel
theorem dX5_foreCount_27 : decode cX5_foreCount 27 = .ok (.iload_n 3, 1) := by decide +kernel
theorem dX5_foreCount_28 : decode cX5_foreCount 28 = .ok (.iaload, 1) := by decide +kernel
theorem dX5_foreCount_29 : decode cX5_foreCount 29 = .ok (.ifCond .ge 7, 3) := by decide +kernel
theorem dX5_foreCount_32 : decode cX5_foreCount 32 = .ok (.iconst 0, 1) := by decide +kernel
theorem dX5_foreCount_33 : decode cX5_foreCount 33 = .ok (.goto 4, 3) := by decide +kernel
theorem dX5_foreCount_36 : decode cX5_foreCount 36 = .ok (.iconst 1, 1) := by decide +kernel
theorem dX5_foreCount_37 : decode cX5_foreCount 37 = .ok (.ireturn, 1) := by decide +kernel
theorem dX5_foreAt_0 : decode cX5_foreAt 0 = .ok (.aload_n 0, 1) := by decide +kernel
theorem dX5_foreAt_1 : decode cX5_foreAt 1 = .ok (.getfield 32, 3) := by decide +kernel
theorem dX5_foreAt_4 : decode cX5_foreAt 4 = .ok (.iload_n 2, 1) := by decide +kernel
theorem dX5_foreAt_5 : decode cX5_foreAt 5 = .ok (.invokevirtual 100, 3) := by decide +kernel
theorem dX5_foreAt_8 : decode cX5_foreAt 8 = .ok (.istore 4, 2) := by decide +kernel
theorem dX5_foreAt_10 : decode cX5_foreAt 10 = .ok (.iload 4, 2) := by decide +kernel
theorem dX5_foreAt_12 : decode cX5_foreAt 12 = .ok (.ifCond .ge 12, 3) := by decide +kernel
theorem dX5_foreAt_15 : decode cX5_foreAt 15 = .ok (.aload_n 1, 1) := by decide +kernel
theorem dX5_foreAt_16 : decode cX5_foreAt 16 = .ok (.iload_n 2, 1) := by decide +kernel
theorem dX5_foreAt_17 : decode cX5_foreAt 17 = .ok (.iload_n 3, 1) := by decide +kernel
theorem dX5_foreAt_18 : decode cX5_foreAt 18 = .ok (.invokevirtual 112, 3) := by decide +kernel
theorem dX5_foreAt_21 : decode cX5_foreAt 21 = .ok (.goto 13, 3) := by decide +kernel
theorem dX5_foreAt_24 : decode cX5_foreAt 24 = .ok (.aload_n 0, 1) := by decide +kernel
theorem dX5_foreAt_25 : decode cX5_foreAt 25 = .ok (.getfield 32, 3) := by decide +kernel
theorem dX5_foreAt_28 : decode cX5_foreAt 28 = .ok (.getfield 109, 3) := by decide +kernel
theorem dX5_foreAt_31 : decode cX5_foreAt 31 = .ok (.iload 4, 2) := by decide +kernel
theorem dX5_foreAt_33 : decode cX5_foreAt 33 = .ok (.iaload, 1) := by decide +kernel
theorem dX5_foreAt_34 : decode cX5_foreAt 34 = .ok (.ireturn, 1) := by decide +kernel
theorem dX5_placeOf_0 : decode cX5_placeOf 0 = .ok (.iconst (-1), 1) := by decide +kernel
theorem dX5_placeOf_1 : decode cX5_placeOf 1 = .ok (.istore_n 2, 1) := by decide +kernel
theorem dX5_placeOf_2 : decode cX5_placeOf 2 = .ok (.iconst 0, 1) := by decide +kernel
theorem dX5_placeOf_3 : decode cX5_placeOf 3 = .ok (.istore_n 3, 1) := by decide +kernel
theorem dX5_placeOf_4 : decode cX5_placeOf 4 = .ok (.iload_n 3, 1) := by decide +kernel
theorem dX5_placeOf_5 : decode cX5_placeOf 5 = .ok (.aload_n 0, 1) := by decide +kernel
theorem dX5_placeOf_6 : decode cX5_placeOf 6 = .ok (.getfield 23, 3) := by decide +kernel
theorem dX5_placeOf_9 : decode cX5_placeOf 9 = .ok (.getfield 53, 3) := by decide +kernel
theorem dX5_placeOf_12 : decode cX5_placeOf 12 = .ok (.if_icmp .ge 59, 3) := by decide +kernel
theorem dX5_placeOf_15 : decode cX5_placeOf 15 = .ok (.aload_n 0, 1) := by decide +kernel
theorem dX5_placeOf_16 : decode cX5_placeOf 16 = .ok (.getfield 23, 3) := by decide +kernel
theorem dX5_placeOf_19 : decode cX5_placeOf 19 = .ok (.getfield 116, 3) := by decide +kernel
theorem dX5_placeOf_22 : decode cX5_placeOf 22 = .ok (.iload_n 3, 1) := by decide +kernel
theorem dX5_placeOf_23 : decode cX5_placeOf 23 = .ok (.iaload, 1) := by decide +kernel
theorem dX5_placeOf_24 : decode cX5_placeOf 24 = .ok (.istore 4, 2) := by decide +kernel
theorem dX5_placeOf_26 : decode cX5_placeOf 26 = .ok (.iload 4, 2) := by decide +kernel
theorem dX5_placeOf_28 : decode cX5_placeOf 28 = .ok (.iload_n 1, 1) := by decide +kernel
theorem dX5_placeOf_29 : decode cX5_placeOf 29 = .ok (.invokestatic 119, 3) := by decide +kernel
theorem dX5_placeOf_32 : decode cX5_placeOf 32 = .ok (.istore 5, 2) := by decide +kernel
theorem dX5_placeOf_34 : decode cX5_placeOf 34 = .ok (.iload 5, 2) := by decide +kernel
theorem dX5_placeOf_36 : decode cX5_placeOf 36 = .ok (.ifCond .eq 29, 3) := by decide +kernel
theorem dX5_placeOf_39 : decode cX5_placeOf 39 = .ok (.iload_n 2, 1) := by decide +kernel
theorem dX5_placeOf_40 : decode cX5_placeOf 40 = .ok (.ifCond .lt 23, 3) := by decide +kernel
theorem dX5_placeOf_43 : decode cX5_placeOf 43 = .ok (.iload 4, 2) := by decide +kernel
theorem dX5_placeOf_45 : decode cX5_placeOf 45 = .ok (.invokestatic 125, 3) := by decide +kernel
theorem dX5_placeOf_48 : decode cX5_placeOf 48 = .ok (.aload_n 0, 1) := by decide +kernel
theorem dX5_placeOf_49 : decode cX5_placeOf 49 = .ok (.getfield 23, 3) := by decide +kernel
theorem dX5_placeOf_52 : decode cX5_placeOf 52 = .ok (.getfield 116, 3) := by decide +kernel
theorem dX5_placeOf_55 : decode cX5_placeOf 55 = .ok (.iload_n 2, 1) := by decide +kernel
theorem dX5_placeOf_56 : decode cX5_placeOf 56 = .ok (.iaload, 1) := by decide +kernel
theorem dX5_placeOf_57 : decode cX5_placeOf 57 = .ok (.invokestatic 125, 3) := by decide +kernel
theorem dX5_placeOf_60 : decode cX5_placeOf 60 = .ok (.if_icmp .le 5, 3) := by decide +kernel
theorem dX5_placeOf_63 : decode cX5_placeOf 63 = .ok (.iload_n 3, 1) := by decide +kernel
theorem dX5_placeOf_64 : decode cX5_placeOf 64 = .ok (.istore_n 2, 1) := by decide +kernel
theorem dX5_placeOf_65 : decode cX5_placeOf 65 = .ok (.iinc 3 1, 3) := by decide +kernel
theorem dX5_placeOf_68 : decode cX5_placeOf 68 = .ok (.goto (-64), 3) := by decide +kernel
theorem dX5_placeOf_71 : decode cX5_placeOf 71 = .ok (.iload_n 2, 1) := by decide +kernel
theorem dX5_placeOf_72 : decode cX5_placeOf 72 = .ok (.ifCond .ge 7, 3) := by decide +kernel
theorem dX5_placeOf_75 : decode cX5_placeOf 75 = .ok (.iload_n 1, 1) := by decide +kernel
theorem dX5_placeOf_76 : decode cX5_placeOf 76 = .ok (.goto 25, 3) := by decide +kernel
theorem dX5_placeOf_79 : decode cX5_placeOf 79 = .ok (.iload_n 1, 1) := by decide +kernel
theorem dX5_placeOf_80 : decode cX5_placeOf 80 = .ok (.aload_n 0, 1) := by decide +kernel
theorem dX5_placeOf_81 : decode cX5_placeOf 81 = .ok (.getfield 23, 3) := by decide +kernel
theorem dX5_placeOf_84 : decode cX5_placeOf 84 = .ok (.getfield 116, 3) := by decide +kernel
theorem dX5_placeOf_87 : decode cX5_placeOf 87 = .ok (.iload_n 2, 1) := by decide +kernel
theorem dX5_placeOf_88 : decode cX5_placeOf 88 = .ok (.iaload, 1) := by decide +kernel
theorem dX5_placeOf_89 : decode cX5_placeOf 89 = .ok (.aload_n 0, 1) := by decide +kernel
theorem dX5_placeOf_90 : decode cX5_placeOf 90 = .ok (.getfield 23, 3) := by decide +kernel
theorem dX5_placeOf_93 : decode cX5_placeOf 93 = .ok (.getfield 109, 3) := by decide +kernel
theorem dX5_placeOf_96 : decode cX5_placeOf 96 = .ok (.iload_n 2, 1) := by decide +kernel
theorem dX5_placeOf_97 : decode cX5_placeOf 97 = .ok (.iaload, 1) := by decide +kernel
theorem dX5_placeOf_98 : decode cX5_placeOf 98 = .ok (.invokestatic 128, 3) := by decide +kernel
theorem dX5_placeOf_101 : decode cX5_placeOf 101 = .ok (.ireturn, 1) := by decide +kernel
abbrev kP : Type := (Nat → List (Int × Int)) × (Nat → Int) × (Int → Int) × (Int → Int)
def plSh (sh : gS) (a : Int) : Prop :=
  gsh sh a = some (0, 6) ∧ qSh sh (a + 1) 4 ∧ qSh sh (a + 4) 4 ∧ qSh sh (a + 7) 4 ∧ qSh sh (a + 10) 4 ∧ qSh sh (a + 13) 4 ∧ qSh sh (a + 16) 4 ∧ qSh sh (a + 19) 10 ∧ gsh sh (a + 22) = some (1, 120) ∧ gsh sh (a + 23) = some (1, 120) ∧ 379 < a ∧ a < 730
def plOk (sh : gS) (M : gM) (a : Int) (pl : kP) : Prop :=
  plSh sh a ∧ (∀ i : Nat, i < 6 → qOk sh M (a + 1 + 3 * (i : Int)) 4 (pl.1 i)) ∧ qOk sh M (a + 19) 10 (pl.1 6) ∧ (∀ f : Nat, f < 4 ∨ (10 < f ∧ f < 17) → M a (f : Int) = pl.2.1 f) ∧ ∀ k : Int, 0 ≤ k → k < 120 → M (a + 22) k = pl.2.2.1 k ∧ M (a + 23) k = pl.2.2.2 k
theorem sp_X5_isMapped {sh : gS} {M : gM} {a k : Int} {pl : kP} (hOK : gOK sh M) (hP : plOk sh M a pl) (hk : 0 ≤ k ∧ k < 120) :
    gC (gr 0 0) yX5_isMapped cX5_isMapped 2 (some (.boolean)) [(4, a), (0, k)] sh M (gPp sh M (0, if 0 ≤ pl.2.2.2 k then 1 else 0)) := by
  obtain ⟨⟨s0, q1, q2, q3, q4, q5, q6, q7, s8, s9, s10, s11⟩, p1, p2, p3, p4⟩ := hP
  have e := (p4 k hk.1 hk.2).2
  refine gC_ofA (lv := [_, _]) (by decide +kernel) (Nat.le_of_ble_eq_true rfl) rfl (fun hMw hav => ?_)
  refine g_aload_n (q0 := 1) (j := 0) rfl dX5_isMapped_0 rfl ?_
  refine g_getp (q0 := 4) (b := a + 23) rfl ff_X5_42 dX5_isMapped_1 rfl hOK (by omega) (by assumption) rfl rfl ?_
  refine g_iload_n (q0 := 5) (j := 1) rfl dX5_isMapped_4 rfl ?_
  refine g_iald (q0 := 6) rfl dX5_isMapped_5 (by assumption) (by omega) (by omega) ?_
  refine g_if_lt (q0 := 9) (tgt := 13) rfl dX5_isMapped_6 (by decide) (fun h6 => ?_) (fun h6 => ?_)
  · refine g_iconst (q0 := 14) rfl dX5_isMapped_13 (k := ?_)
    refine g_zreturn dX5_isMapped_14 rfl (by first | rfl | exact gnz (by omega)) ⟨Nat.zero_le _, Nat.zero_le _⟩ ?_
    exact ⟨by rw [if_neg (by omega)], rfl, rfl⟩
  · refine g_iconst (q0 := 10) rfl dX5_isMapped_9 (k := ?_)
    refine g_goto (tgt := 14) dX5_isMapped_10 (by decide) ?_
    refine g_zreturn dX5_isMapped_14 rfl (by first | rfl | exact gnz (by omega)) ⟨Nat.zero_le _, Nat.zero_le _⟩ ?_
    exact ⟨by rw [if_pos (by omega)], rfl, rfl⟩
theorem sp_X5_isKept {sh : gS} {M : gM} {a k : Int} {pl : kP} (hOK : gOK sh M) (hP : plOk sh M a pl) (hk : 0 ≤ k ∧ k < 120) :
    gC (gr 0 0) yX5_isKept cX5_isKept 2 (some (.boolean)) [(4, a), (0, k)] sh M (gPp sh M (0, if pl.2.2.2 k = 0 then 1 else 0)) := by
  obtain ⟨⟨s0, q1, q2, q3, q4, q5, q6, q7, s8, s9, s10, s11⟩, p1, p2, p3, p4⟩ := hP
  have e := (p4 k hk.1 hk.2).2
  refine gC_ofA (lv := [_, _]) (by decide +kernel) (Nat.le_of_ble_eq_true rfl) rfl (fun hMw hav => ?_)
  refine g_aload_n (q0 := 1) (j := 0) rfl dX5_isKept_0 rfl ?_
  refine g_getp (q0 := 4) (b := a + 23) rfl ff_X5_42 dX5_isKept_1 rfl hOK (by omega) (by assumption) rfl rfl ?_
  refine g_iload_n (q0 := 5) (j := 1) rfl dX5_isKept_4 rfl ?_
  refine g_iald (q0 := 6) rfl dX5_isKept_5 (by assumption) (by omega) (by omega) ?_
  refine g_if_ne (q0 := 9) (tgt := 13) rfl dX5_isKept_6 (by decide) (fun h6 => ?_) (fun h6 => ?_)
  · refine g_iconst (q0 := 14) rfl dX5_isKept_13 (k := ?_)
    refine g_zreturn dX5_isKept_14 rfl (by first | rfl | exact gnz (by omega)) ⟨Nat.zero_le _, Nat.zero_le _⟩ ?_
    exact ⟨by rw [if_neg (by omega)], rfl, rfl⟩
  · refine g_iconst (q0 := 10) rfl dX5_isKept_9 (k := ?_)
    refine g_goto (tgt := 14) dX5_isKept_10 (by decide) ?_
    refine g_zreturn dX5_isKept_14 rfl (by first | rfl | exact gnz (by omega)) ⟨Nat.zero_le _, Nat.zero_le _⟩ ?_
    exact ⟨by rw [if_pos (by omega)], rfl, rfl⟩
/-- the FORE of a COMMIT -/
def kForeL (c : kC) (pl : kP) (k : Int) : List Int := match qGet k (pl.1 5) with
  | some v => if v < 0 then [] else [v]
  | none => kPs c
theorem plG {sh : gS} {M : gM} {a : Int} {pl : kP} (hP : plOk sh M a pl) : qOk sh M (a + 16) 4 (pl.1 5) := by
  have := hP.2.1 5 (by decide)
  rwa [show a + 1 + 3 * ((5 : Nat) : Int) = a + 16 by omega] at this
theorem plM {sh : gS} {M : gM} {a : Int} {pl : kP} (hP : plOk sh M a pl) : qOk sh M (a + 7) 4 (pl.1 2) := by
  have := hP.2.1 2 (by decide)
  rwa [show a + 1 + 3 * ((2 : Nat) : Int) = a + 7 by omega] at this
theorem sp_X5_foreCount {sh : gS} {M : gM} {a : Int} {cs : List kC} {k : Nat} {c : kC} {pl : kP} (hOK : gOK sh M) (hC : cOk sh M cs) (hk : cs[k]? = some c) (hP : plOk sh M a pl) :
    gC (gr 1 22) yX5_foreCount cX5_foreCount 4 (some (.int)) [(4, a), (4, 4), (0, (k : Int))] sh M (gPp sh M (0, ((kForeL c pl (k : Int)).length : Int))) := by
  have hl := cOk_len hC hk
  obtain ⟨⟨c1, -⟩, -⟩ := hC.2.2.2 k c hk
  have hG := plG hP
  obtain ⟨⟨s0, q1, q2, q3, q4, q5, q6, q7, s8, s9, s10, s11⟩, -⟩ := hP
  obtain ⟨g1, g2, g3, g4, g5⟩ := id q6
  refine gC_ofA (lv := [_, _, _, _]) (by decide +kernel) (Nat.le_of_ble_eq_true rfl) rfl (fun hMw hav => ?_)
  refine g_aload_n (q0 := 1) (j := 0) rfl dX5_foreCount_0 rfl ?_
  refine g_getp (q0 := 4) (b := a + 16) rfl ff_X5_32 dX5_foreCount_1 rfl hOK (by omega) (by assumption) rfl rfl ?_
  refine g_iload_n (q0 := 5) (j := 2) rfl dX5_foreCount_4 rfl ?_
  refine g_callVp (as := [_]) (rest := []) mt_X4_find mi_X4_find se_X4_find ml_X5_100 dX5_foreCount_5 (q0 := 8) rfl rfl (by assumption) rfl rfl (sp_X4_find hOK hG) rfl ⟨by decide, by decide⟩ (Nat.le_of_ble_eq_true rfl) ⟨Nat.zero_le _, Nat.zero_le _⟩ (fun hwc => ?_)
  unfold kForeL
  rcases qFind_sp (k : Int) (pl.1 5) 0 with ⟨x, y⟩ | ⟨pre, suf, v, x, y, z⟩
  · rw [x, y]
    refine g_istore_n (q0 := 9) (j := 3) (lv2 := [_, _, _, _]) rfl dX5_foreCount_8 (by decide) rfl rfl ?_
    refine g_iload_n (q0 := 10) (j := 3) rfl dX5_foreCount_9 rfl ?_
    refine g_if_ge (q0 := 13) (tgt := 20) rfl dX5_foreCount_10 (by decide) (fun h10 => ?_) (fun h10 => ?_)
    · omega
    · refine g_aload_n (q0 := 14) (j := 1) rfl dX5_foreCount_13 rfl ?_
      refine g_getp (q0 := 17) (b := 5) rfl ff_X5_104 dX5_foreCount_14 rfl hOK (by decide) (sh_4 hOK) rfl (by decide) ?_
      refine g_iload_n (q0 := 18) (j := 2) rfl dX5_foreCount_17 rfl ?_
      refine g_iald (q0 := 19) rfl dX5_foreCount_18 (sh_5 hOK) (by omega) (by omega) ?_
      refine g_ireturn dX5_foreCount_19 rfl ⟨Nat.zero_le _, Nat.zero_le _⟩ ?_
      exact ⟨by rw [c1], rfl, rfl⟩
  · obtain ⟨-, hgl, hgc, hgr⟩ := hG
    have hlen : (pl.1 5).length = pre.length + suf.length + 1 := by rw [x]; simp; omega
    rw [x] at hgr
    have g0 := (qG_1 (rw_cons (rw_app hgr).2).1).2
    rw [y, z]
    refine g_istore_n (q0 := 9) (j := 3) (lv2 := [_, _, _, _]) rfl dX5_foreCount_8 (by decide) rfl rfl ?_
    refine g_iload_n (q0 := 10) (j := 3) rfl dX5_foreCount_9 rfl ?_
    refine g_if_ge (q0 := 13) (tgt := 20) rfl dX5_foreCount_10 (by decide) (fun h10 => ?_) (fun h10 => ?_)
    · refine g_aload_n (q0 := 21) (j := 0) rfl dX5_foreCount_20 rfl ?_
      refine g_getp (q0 := 24) (b := a + 16) rfl ff_X5_32 dX5_foreCount_21 rfl hOK (by omega) (by assumption) rfl rfl ?_
      refine g_getp (q0 := 27) (b := a + 16 + 2) rfl ff_X5_109 dX5_foreCount_24 rfl hOK (by omega) (by assumption) rfl rfl ?_
      refine g_iload_n (q0 := 28) (j := 3) rfl dX5_foreCount_27 rfl ?_
      refine g_iald (q0 := 29) rfl dX5_foreCount_28 (by assumption) (by omega) (by omega) ?_
      refine g_if_ge (q0 := 32) (tgt := 36) rfl dX5_foreCount_29 (by decide) (fun h29 => ?_) (fun h29 => ?_)
      · rw [g0] at h29
        refine g_iconst (q0 := 37) rfl dX5_foreCount_36 (k := ?_)
        refine g_ireturn dX5_foreCount_37 rfl ⟨Nat.zero_le _, Nat.zero_le _⟩ ?_
        simp only [if_neg (show ¬ v < 0 by omega)]
        exact ⟨rfl, rfl, rfl⟩
      · rw [g0] at h29
        refine g_iconst (q0 := 33) rfl dX5_foreCount_32 (k := ?_)
        refine g_goto (tgt := 37) dX5_foreCount_33 (by decide) ?_
        refine g_ireturn dX5_foreCount_37 rfl ⟨Nat.zero_le _, Nat.zero_le _⟩ ?_
        simp only [if_pos (show v < 0 by omega)]
        exact ⟨rfl, rfl, rfl⟩
    · omega
theorem sp_X5_foreAt {sh : gS} {M : gM} {a v : Int} {cs : List kC} {k i : Nat} {c : kC} {pl : kP} (hOK : gOK sh M) (hC : cOk sh M cs) (hk : cs[k]? = some c) (hP : plOk sh M a pl) (hi : (kForeL c pl (k : Int))[i]? = some v) :
    gC (gr 1 22) yX5_foreAt cX5_foreAt 5 (some (.int)) [(4, a), (4, 4), (0, (k : Int)), (0, (i : Int))] sh M (gPp sh M (0, v)) := by
  have hl := cOk_len hC hk
  obtain ⟨⟨-, c2, -⟩, ⟨w1, -⟩, -⟩ := hC.2.2.2 k c hk
  have hG := plG hP
  obtain ⟨⟨s0, q1, q2, q3, q4, q5, q6, q7, s8, s9, s10, s11⟩, -⟩ := hP
  obtain ⟨g1, g2, g3, g4, g5⟩ := id q6
  unfold kForeL at hi
  refine gC_ofA (lv := [_, _, _, _, _]) (by decide +kernel) (Nat.le_of_ble_eq_true rfl) rfl (fun hMw hav => ?_)
  refine g_aload_n (q0 := 1) (j := 0) rfl dX5_foreAt_0 rfl ?_
  refine g_getp (q0 := 4) (b := a + 16) rfl ff_X5_32 dX5_foreAt_1 rfl hOK (by omega) (by assumption) rfl rfl ?_
  refine g_iload_n (q0 := 5) (j := 2) rfl dX5_foreAt_4 rfl ?_
  refine g_callVp (as := [_]) (rest := []) mt_X4_find mi_X4_find se_X4_find ml_X5_100 dX5_foreAt_5 (q0 := 8) rfl rfl (by assumption) rfl rfl (sp_X4_find hOK hG) rfl ⟨by decide, by decide⟩ (Nat.le_of_ble_eq_true rfl) ⟨Nat.zero_le _, Nat.zero_le _⟩ (fun hwc => ?_)
  rcases qFind_sp (k : Int) (pl.1 5) 0 with ⟨x, y⟩ | ⟨pre, suf, u, x, y, z⟩
  · rw [y] at hi
    simp only at hi
    have hil := (List.getElem?_eq_some_iff.mp hi).1
    have hv := c2 i v hi
    rw [x]
    refine g_istore (q0 := 10) (j := 4) (lv2 := [_, _, _, _, _]) rfl dX5_foreAt_8 (by decide) rfl rfl ?_
    refine g_iload (q0 := 12) (j := 4) rfl dX5_foreAt_10 rfl ?_
    refine g_if_ge (q0 := 15) (tgt := 24) rfl dX5_foreAt_12 (by decide) (fun h12 => ?_) (fun h12 => ?_)
    · omega
    · refine g_aload_n (q0 := 16) (j := 1) rfl dX5_foreAt_15 rfl ?_
      refine g_iload_n (q0 := 17) (j := 2) rfl dX5_foreAt_16 rfl ?_
      refine g_iload_n (q0 := 18) (j := 3) rfl dX5_foreAt_17 rfl ?_
      refine g_callVp (as := [_, _]) (rest := []) mt_X1_parent mi_X1_parent se_X1_parent ml_X5_112 dX5_foreAt_18 (q0 := 21) rfl rfl (sh_4 hOK) rfl rfl (sp_X1_parent hOK ⟨by omega, by omega⟩ ⟨by omega, by omega⟩) rfl ⟨by decide, by decide⟩ (Nat.le_of_ble_eq_true rfl) ⟨Nat.zero_le _, Nat.zero_le _⟩ (fun hwc => ?_)
      refine g_goto (tgt := 34) dX5_foreAt_21 (by decide) ?_
      refine g_ireturn dX5_foreAt_34 rfl ⟨Nat.zero_le _, Nat.zero_le _⟩ ?_
      exact ⟨by rw [hv], rfl, rfl⟩
  · obtain ⟨-, hgl, hgc, hgr⟩ := hG
    have hlen : (pl.1 5).length = pre.length + suf.length + 1 := by rw [x]; simp; omega
    rw [x] at hgr
    have g0 := (qG_1 (rw_cons (rw_app hgr).2).1).2
    rw [z] at hi
    simp only at hi
    rw [y]
    refine g_istore (q0 := 10) (j := 4) (lv2 := [_, _, _, _, _]) rfl dX5_foreAt_8 (by decide) rfl rfl ?_
    refine g_iload (q0 := 12) (j := 4) rfl dX5_foreAt_10 rfl ?_
    refine g_if_ge (q0 := 15) (tgt := 24) rfl dX5_foreAt_12 (by decide) (fun h12 => ?_) (fun h12 => ?_)
    · refine g_aload_n (q0 := 25) (j := 0) rfl dX5_foreAt_24 rfl ?_
      refine g_getp (q0 := 28) (b := a + 16) rfl ff_X5_32 dX5_foreAt_25 rfl hOK (by omega) (by assumption) rfl rfl ?_
      refine g_getp (q0 := 31) (b := a + 16 + 2) rfl ff_X5_109 dX5_foreAt_28 rfl hOK (by omega) (by assumption) rfl rfl ?_
      refine g_iload (q0 := 33) (j := 4) rfl dX5_foreAt_31 rfl ?_
      refine g_iald (q0 := 34) rfl dX5_foreAt_33 (by assumption) (by omega) (by omega) ?_
      refine g_ireturn dX5_foreAt_34 rfl ⟨Nat.zero_le _, Nat.zero_le _⟩ ?_
      rw [g0]
      have : u = v := by
        by_cases hu : u < 0
        · rw [if_pos hu] at hi; simp at hi
        · rw [if_neg hu] at hi
          cases i with
          | zero => simpa using hi
          | succ i => simp at hi
      exact ⟨by rw [this], rfl, rfl⟩
    · omega
/-- the fitting place with the most NAMES, of like ones the first -/
def plBest (p : Int) : Option (Int × Int) → List (Int × Int) → Option (Int × Int)
  | b, [] => b
  | none, f :: r => if pCov f.1 p then plBest p (some f) r else plBest p none r
  | some b, f :: r => if pCov f.1 p then (if pNm b.1 < pNm f.1 then plBest p (some f) r else plBest p (some b) r) else plBest p (some b) r
def plPlace (p : Int) (ms : List (Int × Int)) : Int := match plBest p none ms with
  | none => p
  | some b => pMov p b.1 b.2
theorem sp_X5_placeOf {sh : gS} {M : gM} {a p : Int} {pl : kP} (hOK : gOK sh M) (hP : plOk sh M a pl) (hp : 0 ≤ p ∧ p < 1073741824) (hm : ∀ f ∈ pl.1 2, (0 ≤ f.1 ∧ f.1 < 1073741824) ∧ 0 ≤ f.2 ∧ f.2 < 1073741824) :
    gC (gr 2 48) yX5_placeOf cX5_placeOf 6 (some (.int)) [(4, a), (0, p)] sh M (gPp sh M (0, plPlace p (pl.1 2))) := by
  have hG := plM hP
  obtain ⟨⟨s0, q1, q2, q3, q4, q5, q6, q7, s8, s9, s10, s11⟩, -⟩ := hP
  obtain ⟨g1, g2, g3, g4, g5⟩ := id q3
  obtain ⟨-, hgl, hgc, hgr⟩ := hG
  generalize hx : plPlace p (pl.1 2) = x
  generalize hms : pl.1 2 = ms at *
  unfold plPlace at hx
  refine gC_ofA (lv := [_, _, _, _, _, _]) (by decide +kernel) (Nat.le_of_ble_eq_true rfl) rfl (fun hMw hav => ?_)
  have lp : ∀ (suf pre : List (Int × Int)) (i b : Int) (best : Option (Int × Int)) (w4 w5 : gV), gw w4 → gw w5 → ms = pre ++ suf → i = (pre.length : Int) → (best = none ∧ b = -1 ∨ ∃ (j : Nat) (f : Int × Int), b = (j : Int) ∧ best = some f ∧ ms[j]? = some f) → (match plBest p best suf with | none => p | some b => pMov p b.1 b.2) = x →
      gA (gr 2 48) yX5_placeOf cX5_placeOf 6 (some (.int)) (gPp sh M (0, x)) (0, 0) 4 [(4, a), (0, p), (0, b), (0, i), w4, w5] [] sh M := by
    intro suf
    induction suf with
    | nil =>
      intro pre i b best w4 w5 hw4 hw5 e1 e2 e3 hv
      have hl : ms.length = pre.length := by rw [e1]; simp
      refine g_iload_n (q0 := 5) (j := 3) rfl dX5_placeOf_4 rfl ?_
      refine g_aload_n (q0 := 6) (j := 0) rfl dX5_placeOf_5 rfl ?_
      refine g_getp (q0 := 9) (b := a + 7) rfl ff_X5_23 dX5_placeOf_6 rfl hOK (by omega) (by assumption) rfl rfl ?_
      refine g_getf (q0 := 12) (t := 0) (fi := 0) rfl rfl ff_X5_53 dX5_placeOf_9 rfl (by assumption) ?_
      refine g_icmp_ge (q0 := 15) (tgt := 71) rfl dX5_placeOf_12 (by decide) (fun h12 => ?_) (fun h12 => ?_)
      · rcases e3 with ⟨z1, z2⟩ | ⟨j, f, z1, z2, z3⟩
        · rw [z1] at hv
          refine g_iload_n (q0 := 72) (j := 2) rfl dX5_placeOf_71 rfl ?_
          refine g_if_ge (q0 := 75) (tgt := 79) rfl dX5_placeOf_72 (by decide) (fun h72 => ?_) (fun h72 => ?_)
          · omega
          · refine g_iload_n (q0 := 76) (j := 1) rfl dX5_placeOf_75 rfl ?_
            refine g_goto (tgt := 101) dX5_placeOf_76 (by decide) ?_
            refine g_ireturn dX5_placeOf_101 rfl ⟨Nat.zero_le _, Nat.zero_le _⟩ ?_
            exact ⟨by rw [← hv]; rfl, rfl, rfl⟩
        · rw [z2] at hv
          have hj := (List.getElem?_eq_some_iff.mp z3).1
          have hf := hm f (List.mem_of_getElem? z3)
          have hg := qG_1 (hgr j f z3)
          rw [Int.zero_add, ← z1] at hg
          refine g_iload_n (q0 := 72) (j := 2) rfl dX5_placeOf_71 rfl ?_
          refine g_if_ge (q0 := 75) (tgt := 79) rfl dX5_placeOf_72 (by decide) (fun h72 => ?_) (fun h72 => ?_)
          · refine g_iload_n (q0 := 80) (j := 1) rfl dX5_placeOf_79 rfl ?_
            refine g_aload_n (q0 := 81) (j := 0) rfl dX5_placeOf_80 rfl ?_
            refine g_getp (q0 := 84) (b := a + 7) rfl ff_X5_23 dX5_placeOf_81 rfl hOK (by omega) (by assumption) rfl rfl ?_
            refine g_getp (q0 := 87) (b := a + 7 + 1) rfl ff_X5_116 dX5_placeOf_84 rfl hOK (by omega) (by assumption) rfl rfl ?_
            refine g_iload_n (q0 := 88) (j := 2) rfl dX5_placeOf_87 rfl ?_
            refine g_iald (q0 := 89) rfl dX5_placeOf_88 (by assumption) (by omega) (by omega) ?_
            refine g_aload_n (q0 := 90) (j := 0) rfl dX5_placeOf_89 rfl ?_
            refine g_getp (q0 := 93) (b := a + 7) rfl ff_X5_23 dX5_placeOf_90 rfl hOK (by omega) (by assumption) rfl rfl ?_
            refine g_getp (q0 := 96) (b := a + 7 + 2) rfl ff_X5_109 dX5_placeOf_93 rfl hOK (by omega) (by assumption) rfl rfl ?_
            refine g_iload_n (q0 := 97) (j := 2) rfl dX5_placeOf_96 rfl ?_
            refine g_iald (q0 := 98) rfl dX5_placeOf_97 (by assumption) (by omega) (by omega) ?_
            rw [hg.1, hg.2]
            refine g_callSp (as := [_, _, _]) (rest := []) mt_X10_moved ms_X10_moved ml_X5_128 dX5_placeOf_98 (q0 := 101) rfl rfl (sp_X10_moved hp hf.1 hf.2) rfl ⟨by decide, by decide⟩ (Nat.le_of_ble_eq_true rfl) ⟨Nat.zero_le _, Nat.zero_le _⟩ (fun hwc => ?_)
            refine g_ireturn dX5_placeOf_101 rfl ⟨Nat.zero_le _, Nat.zero_le _⟩ ?_
            exact ⟨by rw [← hv]; rfl, rfl, rfl⟩
          · omega
      · omega
    | cons f r ih =>
      intro pre i b best w4 w5 hw4 hw5 e1 e2 e3 hv
      have hl : ms.length = pre.length + r.length + 1 := by rw [e1]; simp; omega
      have hat : ms[pre.length]? = some f := by rw [e1, List.getElem?_append_right (Nat.le_refl _)]; simp
      have hg := qG_1 (hgr pre.length f hat)
      rw [Int.zero_add, ← e2] at hg
      have hf := hm f (by rw [e1]; simp)
      have hfw : gw (0, f.1) := ⟨by show -2147483648 ≤ f.1; omega, by show f.1 < 2147483648; omega⟩
      have e1b : ms = (pre ++ [f]) ++ r := by rw [e1]; simp
      have e2b : i + 1 = ((pre ++ [f]).length : Int) := by simp; omega
      have hkeep : (match plBest p best r with | none => p | some b => pMov p b.1 b.2) = x → ∀ w5, gw w5 → gA (gr 2 48) yX5_placeOf cX5_placeOf 6 (some (.int)) (gPp sh M (0, x)) (0, 0) 65 [(4, a), (0, p), (0, b), (0, i), (0, f.1), w5] [] sh M := by
        intro h w5 hw5
        refine g_iinc (q0 := 68) (lv2 := [_, _, _, _, _, _]) rfl dX5_placeOf_65 rfl (by decide) rfl rfl (by omega) (by omega) ?_
        refine g_goto (tgt := 4) dX5_placeOf_68 (by decide) ?_
        exact ih _ _ _ best _ _ hfw hw5 e1b e2b e3 h
      have htake : (match plBest p (some f) r with | none => p | some b => pMov p b.1 b.2) = x → ∀ w5, gw w5 → gA (gr 2 48) yX5_placeOf cX5_placeOf 6 (some (.int)) (gPp sh M (0, x)) (0, 0) 63 [(4, a), (0, p), (0, b), (0, i), (0, f.1), w5] [] sh M := by
        intro h w5 hw5
        refine g_iload_n (q0 := 64) (j := 3) rfl dX5_placeOf_63 rfl ?_
        refine g_istore_n (q0 := 65) (j := 2) (lv2 := [_, _, _, _, _, _]) rfl dX5_placeOf_64 (by decide) rfl rfl ?_
        refine g_iinc (q0 := 68) (lv2 := [_, _, _, _, _, _]) rfl dX5_placeOf_65 rfl (by decide) rfl rfl (by omega) (by omega) ?_
        refine g_goto (tgt := 4) dX5_placeOf_68 (by decide) ?_
        exact ih _ _ _ (some f) _ _ hfw hw5 e1b e2b (Or.inr ⟨pre.length, f, e2, rfl, hat⟩) h
      refine g_iload_n (q0 := 5) (j := 3) rfl dX5_placeOf_4 rfl ?_
      refine g_aload_n (q0 := 6) (j := 0) rfl dX5_placeOf_5 rfl ?_
      refine g_getp (q0 := 9) (b := a + 7) rfl ff_X5_23 dX5_placeOf_6 rfl hOK (by omega) (by assumption) rfl rfl ?_
      refine g_getf (q0 := 12) (t := 0) (fi := 0) rfl rfl ff_X5_53 dX5_placeOf_9 rfl (by assumption) ?_
      refine g_icmp_ge (q0 := 15) (tgt := 71) rfl dX5_placeOf_12 (by decide) (fun h12 => ?_) (fun h12 => ?_)
      · omega
      · refine g_aload_n (q0 := 16) (j := 0) rfl dX5_placeOf_15 rfl ?_
        refine g_getp (q0 := 19) (b := a + 7) rfl ff_X5_23 dX5_placeOf_16 rfl hOK (by omega) (by assumption) rfl rfl ?_
        refine g_getp (q0 := 22) (b := a + 7 + 1) rfl ff_X5_116 dX5_placeOf_19 rfl hOK (by omega) (by assumption) rfl rfl ?_
        refine g_iload_n (q0 := 23) (j := 3) rfl dX5_placeOf_22 rfl ?_
        refine g_iald (q0 := 24) rfl dX5_placeOf_23 (by assumption) (by omega) (by omega) ?_
        refine g_istore (q0 := 26) (j := 4) (lv2 := [_, _, _, _, _, _]) rfl dX5_placeOf_24 (by decide) rfl rfl ?_
        refine g_iload (q0 := 28) (j := 4) rfl dX5_placeOf_26 rfl ?_
        refine g_iload_n (q0 := 29) (j := 1) rfl dX5_placeOf_28 rfl ?_
        rw [hg.1]
        refine g_callSp (as := [_, _]) (rest := []) mt_X10_covers ms_X10_covers ml_X5_119 dX5_placeOf_29 (q0 := 32) rfl rfl (sp_X10_covers hf.1 hp) rfl ⟨by decide, by decide⟩ (Nat.le_of_ble_eq_true rfl) ⟨Nat.zero_le _, Nat.zero_le _⟩ (fun hwc => ?_)
        refine g_istore (q0 := 34) (j := 5) (lv2 := [_, _, _, _, _, _]) rfl dX5_placeOf_32 (by decide) rfl rfl ?_
        refine g_iload (q0 := 36) (j := 5) rfl dX5_placeOf_34 rfl ?_
        refine g_if_eq (q0 := 39) (tgt := 65) rfl dX5_placeOf_36 (by decide) (fun h36 => ?_) (fun h36 => ?_)
        · have hb := bI_f h36
          refine hkeep ?_ _ hwc
          rw [← hv]
          cases best with
          | none => rw [plBest, if_neg (by rw [hb]; decide)]
          | some g => rw [plBest, if_neg (by rw [hb]; decide)]
        · have hb := bI_t h36
          rcases e3 with ⟨z1, z2⟩ | ⟨j, g, z1, z2, z3⟩
          · rw [z1, plBest, if_pos hb] at hv
            refine g_iload_n (q0 := 40) (j := 2) rfl dX5_placeOf_39 rfl ?_
            refine g_if_lt (q0 := 43) (tgt := 63) rfl dX5_placeOf_40 (by decide) (fun h40 => ?_) (fun h40 => ?_)
            · exact htake hv _ hwc
            · omega
          · rw [z2, plBest, if_pos hb] at hv
            have hj := (List.getElem?_eq_some_iff.mp z3).1
            have hgg := hm g (List.mem_of_getElem? z3)
            have hg2 := qG_1 (hgr j g z3)
            rw [Int.zero_add, ← z1] at hg2
            refine g_iload_n (q0 := 40) (j := 2) rfl dX5_placeOf_39 rfl ?_
            refine g_if_lt (q0 := 43) (tgt := 63) rfl dX5_placeOf_40 (by decide) (fun h40 => ?_) (fun h40 => ?_)
            · omega
            · refine g_iload (q0 := 45) (j := 4) rfl dX5_placeOf_43 rfl ?_
              refine g_callSp (as := [_]) (rest := []) mt_X10_namesIn ms_X10_namesIn ml_X5_125 dX5_placeOf_45 (q0 := 48) rfl rfl (sp_X10_namesIn hf.1) rfl ⟨by decide, by decide⟩ (Nat.le_of_ble_eq_true rfl) ⟨Nat.zero_le _, Nat.zero_le _⟩ (fun hwc => ?_)
              refine g_aload_n (q0 := 49) (j := 0) rfl dX5_placeOf_48 rfl ?_
              refine g_getp (q0 := 52) (b := a + 7) rfl ff_X5_23 dX5_placeOf_49 rfl hOK (by omega) (by assumption) rfl rfl ?_
              refine g_getp (q0 := 55) (b := a + 7 + 1) rfl ff_X5_116 dX5_placeOf_52 rfl hOK (by omega) (by assumption) rfl rfl ?_
              refine g_iload_n (q0 := 56) (j := 2) rfl dX5_placeOf_55 rfl ?_
              refine g_iald (q0 := 57) rfl dX5_placeOf_56 (by assumption) (by omega) (by omega) ?_
              rw [hg2.1]
              refine g_callSp (as := [_]) (rest := [_]) mt_X10_namesIn ms_X10_namesIn ml_X5_125 dX5_placeOf_57 (q0 := 60) rfl rfl (sp_X10_namesIn hgg.1) rfl ⟨by decide, by decide⟩ (Nat.le_of_ble_eq_true rfl) ⟨Nat.zero_le _, Nat.zero_le _⟩ (fun hwc => ?_)
              refine g_icmp_le (q0 := 63) (tgt := 65) rfl dX5_placeOf_60 (by decide) (fun h60 => ?_) (fun h60 => ?_)
              · rw [if_neg (by omega)] at hv
                exact hkeep (by rw [z2]; exact hv) _ (by assumption)
              · rw [if_pos (by omega)] at hv
                exact htake hv _ (by assumption)
  refine g_iconst (q0 := 1) rfl dX5_placeOf_0 (k := ?_)
  refine g_istore_n (q0 := 2) (j := 2) (lv2 := [_, _, _, _, _, _]) rfl dX5_placeOf_1 (by decide) rfl rfl ?_
  refine g_iconst (q0 := 3) rfl dX5_placeOf_2 (k := ?_)
  refine g_istore_n (q0 := 4) (j := 3) (lv2 := [_, _, _, _, _, _]) rfl dX5_placeOf_3 (by decide) rfl rfl ?_
  exact lp ms [] 0 (-1) none _ _ trivial trivial rfl rfl (Or.inl ⟨rfl, rfl⟩) hx
